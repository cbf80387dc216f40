/-! THE SMALL MACHINE, 12: the machine follows a run, whatever it is. -/
section MMQ
theorem mm_pure_sw {i : Instr} {k : Int32} {st st' : List Value} (h : mm_pure i k st = some st') : mm_sw i = false := by
  cases hs : mm_sw i with
  | false => rfl
  | true =>
    unfold mm_sw at hs
    split at hs
    · cases h
    · cases h
    · cases hs
theorem mm_loc_sw {i : Instr} {k : Int32} {lo : List (Option Value)} {st : List Value} {z : List (Option Value) × List Value} (h : mm_loc i k lo st = some z) : mm_sw i = false := by
  cases hs : mm_sw i with
  | false => rfl
  | true =>
    unfold mm_sw at hs
    split at hs
    · cases h
    · cases h
    · cases hs
theorem mm_mem_sw {E : mm_V} {mi : Nat} {q : mm_P} {st : List Value} {sh : mm_S} {me : mm_M} {z : List Value × mm_S × mm_M × Nat × Nat} (h : mm_mem E mi q st sh me = some z) : mm_sw q.1 = false := by
  cases hs : mm_sw q.1 with
  | false => rfl
  | true =>
    unfold mm_sw at hs
    unfold mm_mem at h
    split at hs
    · rename_i hi; rw [hi] at h; cases h
    · rename_i hi; rw [hi] at h; cases h
    · cases hs
theorem mm_rm_v {mi pc y kd na x : Nat} {k : Int32} {v : Value} (h : mm_rm mi (pc, (.invokevirtual x, y, kd, na, k, v)) = true) : t_FR y + 1 ≤ t_FR mi ∧ 8 + (t_ML y + 11) + t_LO y ≤ t_LO mi := by
  obtain ⟨h1, h2⟩ := mm_andb (show (Nat.ble (t_FR y + 1) (t_FR mi) && Nat.ble (8 + (t_ML y + 11) + t_LO y) (t_LO mi)) = true from h)
  exact ⟨Nat.le_of_ble_eq_true h1, Nat.le_of_ble_eq_true h2⟩
theorem mm_rm_p {mi pc y kd na x : Nat} {k : Int32} {v : Value} (h : mm_rm mi (pc, (.invokespecial x, y, kd, na, k, v)) = true) (h5 : kd = 1 ∨ kd = 3) : t_FR y + 1 ≤ t_FR mi ∧ 8 + (t_ML y + 11) + t_LO y ≤ t_LO mi := by
  have h : (bif Nat.beq kd 5 then Nat.ble 1 (t_FR mi) && Nat.ble 20 (t_LO mi) else bif Nat.beq kd 9 then true else Nat.ble (t_FR y + 1) (t_FR mi) && Nat.ble (8 + (t_ML y + 11) + t_LO y) (t_LO mi)) = true := h
  rcases h5 with rfl | rfl
  · obtain ⟨h1, h2⟩ := mm_andb (show (Nat.ble (t_FR y + 1) (t_FR mi) && Nat.ble (8 + (t_ML y + 11) + t_LO y) (t_LO mi)) = true from h)
    exact ⟨Nat.le_of_ble_eq_true h1, Nat.le_of_ble_eq_true h2⟩
  · obtain ⟨h1, h2⟩ := mm_andb (show (Nat.ble (t_FR y + 1) (t_FR mi) && Nat.ble (8 + (t_ML y + 11) + t_LO y) (t_LO mi)) = true from h)
    exact ⟨Nat.le_of_ble_eq_true h1, Nat.le_of_ble_eq_true h2⟩
theorem mm_rm_s {mi pc y na x : Nat} {k : Int32} {v : Value} (h : mm_rm mi (pc, (.invokestatic x, y, 2, na, k, v)) = true) : t_FR y + 1 ≤ t_FR mi ∧ 8 + (t_ML y + 11) + t_LO y ≤ t_LO mi := by
  obtain ⟨h1, h2⟩ := mm_andb (show (Nat.ble (t_FR y + 1) (t_FR mi) && Nat.ble (8 + (t_ML y + 11) + t_LO y) (t_LO mi)) = true from h)
  exact ⟨Nat.le_of_ble_eq_true h1, Nat.le_of_ble_eq_true h2⟩
set_option maxRecDepth 100000 in
theorem iv_hd : ∀ q ∈ t_IVl, q.2.2.2.1 = 2 ∨ 5 ≤ q.2.2.2.1 ∨ t_HD q.2.2.1 = [] := by decide +kernel
set_option maxHeartbeats 8000000 in
theorem mm_sim {l : Launch} (hl : l.stackTraces = false) {E : mm_V} (hE : E.2 = .null ∨ E.2 = .ref 1999) : ∀ f, mm_SIM l E f := by
  intro f
  induction f with
  | zero => intro mi S o h; cases h
  | succ f ih =>
    intro mi S o hrun p e R s m args below meth c D A ax ad ac H locs ls Q X hfr hlo hcel hslo htb I hlv hlen hst hlok hend
    have hb : mm_body (mm_run E f) E mi S = some o := hrun
    unfold mm_body at hb
    cases hq : t_OP mi S.1 with
    | none => rw [hq] at hb; cases hb
    | some q =>
      rw [hq] at hb
      dsimp only at hb
      obtain ⟨⟨n0, hd, hn0⟩, hcst, hrsv, hrm⟩ := t_OPok hq
      have hdl : mm_sw q.1 = false → decode (t_BC mi) S.1 = .ok (q.1, mm_len q.1) := fun hs => by
        rcases hn0 with h | h
        · rw [hs] at h; cases h
        · rw [hd, h]
      have hls : ls.size = t_ML mi := hlv.1
      cases hn : mm_next E mi q S with
      | some S' =>
        rw [hn] at hb
        have hle := mm_run_le f mi S' o hb
        unfold mm_next at hn
        split at hn
        · rename_i st' hp
          cases hn
          exact mm_pure_W X.1 X.2.1 hp hcst (hdl (mm_pure_sw hp)) (ih mi _ o hb p e R s m args below meth c D A ax ad ac H locs ls Q X hfr hlo hcel hslo htb I hlv hlen (mm_pure_ok hp hst) hlok hend)
        · split at hn
          · rename_i lo' st' hp
            cases hn
            obtain ⟨k1, k2⟩ := mm_loc_ok hp hst hlok
            exact mm_loc_W X.1 X.2.1 hlv hlen hp hcst (hdl (mm_loc_sw hp)) (fun ls' hlv' hlen' => ih mi _ o hb p e R s m args below meth c D A ax ad ac H locs ls' Q X hfr hlo hcel hslo htb I hlv' hlen' k1 k2 hend)
          · split at hn
            · rename_i pc' st' hp
              cases hn
              exact mm_br_W (len := n0) X.1 X.2.1 hp hcst (hn0.elim (fun h => Or.inr ⟨h, hd⟩) (fun h => Or.inl (by rw [hd, h]))) (ih mi _ o hb p e R s m args below meth c D A ax ad ac H locs ls Q X hfr hlo hcel hslo htb I hlv hlen (mm_br_ok hp hst) hlok hend)
            · split at hn
              · rename_i st' sh' me' dc ds hp
                cases hn
                refine mm_mem_W hE X I hls hp hst (hdl (mm_mem_sw hp)) hrsv hrm hfr hlo (Nat.le_trans hle.1 hcel) (Nat.le_trans hle.2 hslo) ?_
                intro H1 locs1 ad' ac' g1 g2 I' hok' hsz
                refine ih mi _ o hb p e R s m args below meth c D A ax ad' ac' H1 locs1 ls Q X hfr hlo hcel hslo htb I' (mm_l_has g1 hlok hlv) hlen hok' (fun v hv => mm_okv_w hsz (hlok v hv)) ?_
                intro S2 q2 H2 locs2 ad2 ac2 ls2 hq2 he2 f1 f2 I2 hls2 hsz2 hok2
                exact hend S2 q2 H2 locs2 ad2 ac2 ls2 hq2 he2 (fun k hk => (f1 k (hk.imp (fun h => Nat.lt_of_lt_of_le h hsz) id)).trans (g1 k hk)) (fun k hk => (f2 k (Nat.lt_of_lt_of_le hk hsz)).trans (g2 k hk)) I2 hls2 (Nat.le_trans hsz hsz2) hok2
              · cases hn
      | none =>
        rw [hn] at hb
        dsimp only at hb
        cases he : mm_end mi q S with
        | some o' =>
          rw [he] at hb
          cases hb
          exact hend S q H locs ad ac ls hq he (fun _ _ => rfl) (fun _ _ => rfl) I hls (Nat.le_refl _) hst
        | none =>
          rw [he] at hb
          dsimp only at hb
          cases hc : mm_call q S.2.2.1 S.2.2.2.1 with
          | none => rw [hc] at hb; cases hb
          | some z =>
            obtain ⟨y, as, r⟩ := z
            rw [hc] at hb
            dsimp only at hb
            -- behind a call that came back with v
            have go : ∀ (v : Option Value) (sh' : mm_S) (me' : mm_M) (dc ds : Nat), mm_run E f mi (S.1 + 3, S.2.1, v.toList ++ r, sh', me', S.2.2.2.2.2.1 + dc, S.2.2.2.2.2.2 + ds) = some o →
                (S.2.2.2.2.2.1 + dc ≤ R.cells ∧ S.2.2.2.2.2.2 + ds ≤ R.slots) ∧ ∀ (H1 : Heap) (locs1 : List Loc) (ad' : Nat → Nat) (ac' : Nat → ClassId), (∀ k, mm_okr S.2.2.2.1.length k → ad' k = ad k) → (∀ k, k < S.2.2.2.1.length → ac' k = ac k) → mm_I D ad' ac' sh' me' A ax s H1 locs1 → (∀ w ∈ v.toList ++ r, mm_okv sh'.length w) → S.2.2.2.1.length ≤ sh'.length → W p l e R s m args below meth c H1 locs1 (S.2.2.2.2.2.1 + dc) (S.2.2.2.2.2.2 + ds) Q (F0 m (S.1 + 3) ls ((v.toList ++ r).map (mm_v ad'))) := by
              intro v sh' me' dc ds hrest
              have hle := mm_run_le f mi _ o hrest
              refine ⟨⟨Nat.le_trans hle.1 hcel, Nat.le_trans hle.2 hslo⟩, ?_⟩
              intro H1 locs1 ad' ac' g1 g2 I' hok' hsz
              refine ih mi _ o hrest p e R s m args below meth c D A ax ad' ac' H1 locs1 ls Q X hfr hlo hcel hslo htb I' (mm_l_has g1 hlok hlv) hlen hok' (fun v hv => mm_okv_w hsz (hlok v hv)) ?_
              intro S2 q2 H2 locs2 ad2 ac2 ls2 hq2 he2 f1 f2 I2 hls2 hsz2 hok2
              exact hend S2 q2 H2 locs2 ad2 ac2 ls2 hq2 he2 (fun k hk => (f1 k (hk.imp (fun h => Nat.lt_of_lt_of_le h hsz) id)).trans (g1 k hk)) (fun k hk => (f2 k (Nat.lt_of_lt_of_le hk hsz)).trans (g2 k hk)) I2 hls2 (Nat.le_trans hsz hsz2) hok2
            -- behind a call that was caught
            have goX : ∀ (x h : Nat) (qh : mm_P) (n : Nat) (lo : List (Option Value)) (sh' : mm_S) (me' : mm_M) (dc ds : Nat), t_OP mi h = some qh → mm_catch qh S.2.1 = some (n, lo) → mm_run E f mi (h + n, lo, [], sh', me', S.2.2.2.2.2.1 + dc, S.2.2.2.2.2.2 + ds) = some o →
                (S.2.2.2.2.2.1 + dc ≤ R.cells ∧ S.2.2.2.2.2.2 + ds ≤ R.slots) ∧ ∀ (H1 : Heap) (locs1 : List Loc) (ad' : Nat → Nat) (ac' : Nat → ClassId) (qa : Nat), (∀ k, mm_okr S.2.2.2.1.length k → ad' k = ad k) → (∀ k, k < S.2.2.2.1.length → ac' k = ac k) → mm_I D ad' ac' sh' me' A ax s H1 locs1 → S.2.2.2.1.length ≤ sh'.length → W p l e R s m args below meth c H1 locs1 (S.2.2.2.2.2.1 + dc) (S.2.2.2.2.2.2 + ds) Q (F0 m h ls [.ref qa]) := by
              intro x h qh n lo sh' me' dc ds hqh hcat hrest
              have hle := mm_run_le f mi _ o hrest
              refine ⟨⟨Nat.le_trans hle.1 hcel, Nat.le_trans hle.2 hslo⟩, ?_⟩
              intro H1 locs1 ad' ac' qa g1 g2 I' hsz
              obtain ⟨⟨n1, hd1, hn1⟩, -⟩ := t_OPok hqh
              have fin : ∀ (ls' : Array Slot), lv_has ls' (t_ML mi) (mm_l ad' lo) → lo.length = t_ML mi → (∀ v, some v ∈ lo → mm_okv sh'.length v) → W p l e R s m args below meth c H1 locs1 (S.2.2.2.2.2.1 + dc) (S.2.2.2.2.2.2 + ds) Q (F0 m (h + n) ls' []) := by
                intro ls' hlv' hlen' hlok'
                refine ih mi _ o hrest p e R s m args below meth c D A ax ad' ac' H1 locs1 ls' Q X hfr hlo hcel hslo htb I' hlv' hlen' (fun v hv => by cases hv) hlok' ?_
                intro S2 q2 H2 locs2 ad2 ac2 ls2 hq2 he2 f1 f2 I2 hls2 hsz2 hok2
                exact hend S2 q2 H2 locs2 ad2 ac2 ls2 hq2 he2 (fun k hk => (f1 k (hk.imp (fun h => Nat.lt_of_lt_of_le h hsz) id)).trans (g1 k hk)) (fun k hk => (f2 k (Nat.lt_of_lt_of_le hk hsz)).trans (g2 k hk)) I2 hls2 (Nat.le_trans hsz hsz2) hok2
              have drop : ∀ (i : Nat) (ls' : Array Slot), mm_nl S.2.1 i = true → lv_has ls' (t_ML mi) ((i, Value.ref qa) :: (mm_l ad' S.2.1).filter (fun q => !(q.1 == i) && !(q.1 + 1 == i && q.2.category == 2))) → lv_has ls' (t_ML mi) (mm_l ad' (S.2.1.set i none)) := by
                intro i ls' hnl hv
                refine ⟨hv.1, hv.2.1, fun q9 hq9 => hv.2.2 q9 ?_⟩
                obtain ⟨j, u⟩ := q9
                obtain ⟨w, h1, rfl⟩ := mm_l_in.mp hq9
                by_cases hj : i = j
                · subst hj
                  rw [List.getElem?_set_self'] at h1
                  cases hb9 : S.2.1[i]? with
                  | none => rw [hb9] at h1; simp at h1
                  | some b9 => rw [hb9] at h1; simp at h1
                · rw [List.getElem?_set_ne hj] at h1
                  refine List.mem_cons_of_mem _ (List.mem_filter.mpr ⟨mm_l_in.mpr ⟨w, h1, rfl⟩, ?_⟩)
                  have hji : ¬ j = i := fun q => hj q.symm
                  by_cases hs : j + 1 = i
                  · subst hs
                    have hc9 : w.category = 1 := by
                      unfold mm_nl at hnl
                      rw [show j + 1 - 1 = j from rfl, h1] at hnl
                      simpa using hnl
                    simp [mm_v_cat, hc9]
                  · simp [hji, hs]
              have okset : ∀ i, ∀ v, some v ∈ S.2.1.set i none → mm_okv sh'.length v := fun i v hv => (List.mem_or_eq_of_mem_set hv).elim (fun h => mm_okv_w hsz (hlok v h)) (fun h => by cases h)
              unfold mm_catch at hcat
              split at hcat
              · rename_i i hi
                obtain ⟨h1, h2, h3⟩ := mm_bif hcat
                cases h3
                rw [hi] at hd1 hn1
                have hn1 : n1 = 1 := hn1.elim (fun h => by cases h) id
                subst hn1
                exact lv_astore_n X.1 X.2.1 hd1 rfl (mm_l_has g1 hlok hlv) (by rw [← hlen]; exact Nat.blt_eq.mp h2) rfl (fun ls' hv => fin ls' (drop _ _ h1 hv) (by rw [List.length_set]; exact hlen) (okset _))
              · rename_i i hi
                obtain ⟨h1, h2, h3⟩ := mm_bif hcat
                cases h3
                rw [hi] at hd1 hn1
                have hn1 : n1 = 2 := hn1.elim (fun h => by cases h) id
                subst hn1
                exact lv_astore X.1 X.2.1 hd1 (mm_l_has g1 hlok hlv) (by rw [← hlen]; exact Nat.blt_eq.mp h2) rfl (fun ls' hv => fin ls' (drop _ _ h1 hv) (by rw [List.length_set]; exact hlen) (okset _))
              · cases hcat
            obtain ⟨i0, a0, b0, d0, k0, v0⟩ := q
            unfold mm_call at hc
            split at hc
            · -- virtual
              rename_i x hi
              have hi : i0 = .invokevirtual x := hi
              subst hi
              have hd := hdl rfl
              obtain ⟨hrs1, hrs2⟩ := mm_andb hrsv
              have hiv := of_decide_eq_true hrs1
              have hb0 := Nat.eq_of_beq_eq_true hrs2
              have hb0 : b0 = 0 := hb0
              subst hb0
              have hhd : t_HD a0 = [] := (iv_hd _ (mm_fin2_in hiv)).elim (fun h => absurd (show (0:Nat) = 2 from h) (by decide)) (fun h => h.elim (fun h => absurd (show 5 ≤ 0 from h) (by decide)) id)
              obtain ⟨hna, hiv⟩ := iv_all _ (mm_fin2_in hiv)
              have hna : t_NA a0 = d0 := hna.elim (fun h => absurd (show 5 ≤ 0 from h) (by decide)) id
              have hiv : mm_iv0 (t_CO mi) x a0 := hiv
              obtain ⟨f1, f2⟩ := mm_rm_v hrm
              cases hb1 : Nat.blt d0 S.2.2.1.length with
              | false => dsimp only at hc; rw [hb1] at hc; cases hc
              | true =>
                dsimp only at hc
                rw [hb1] at hc
                dsimp only [cond] at hc
                split at hc
                · rename_i a r' hdrop
                  obtain ⟨h1, h2⟩ := mm_bif1 hc
                  cases h2
                  obtain ⟨h3, h4⟩ := mm_andb h1
                  obtain ⟨h5, h6⟩ := mm_andb h4
                  split at hb
                  · cases hb
                  · rename_i v sh' me' dc ds hrun'
                    obtain ⟨⟨c1, c2⟩, k⟩ := go v sh' me' dc ds hb
                    exact mm_callV ih X I hls hst hdrop (Nat.le_of_ble_eq_true h3) h5 h6 hiv hna hhd hd (Nat.le_trans f1 hfr) (Nat.le_trans f2 hlo) c1 c2 hrun' k
                  · rename_i xx sh' me' dc ds hrun'
                    split at hb
                    · rename_i h hh
                      split at hb
                      · rename_i qh hqh
                        split at hb
                        · rename_i n lo hcat
                          obtain ⟨⟨c1, c2⟩, k⟩ := goX xx h qh n lo sh' me' dc ds hqh hcat hb
                          exact mm_callT hl ih X I htb hls hst hdrop (Nat.le_of_ble_eq_true h3) h5 h6 hiv hna hhd hd (Nat.le_trans f1 hfr) (Nat.le_trans f2 hlo) c1 c2 hrun' hh k
                        · cases hb
                      · cases hb
                    · cases hb
                · cases hc
            · -- special
              rename_i x hi
              have hi : i0 = .invokespecial x := hi
              subst hi
              have hd := hdl rfl
              cases hb1 : Nat.blt d0 S.2.2.1.length && (Nat.beq b0 1 || Nat.beq b0 3) with
              | false => dsimp only at hc; rw [hb1] at hc; cases hc
              | true =>
                dsimp only at hc
                rw [hb1] at hc
                dsimp only [cond] at hc
                have hb13 : b0 = 1 ∨ b0 = 3 := by
                  obtain ⟨-, h⟩ := mm_andb hb1
                  cases h1 : Nat.beq b0 1 with
                  | true => exact Or.inl (Nat.eq_of_beq_eq_true h1)
                  | false => rw [h1] at h; exact Or.inr (Nat.eq_of_beq_eq_true h)
                obtain ⟨f1, f2⟩ := mm_rm_p hrm hb13
                have hrsv : (Nat.beq b0 9 || decide (mm_fin2 t_IVl (t_CO mi) x = some (a0, b0, d0))) = true := hrsv
                have hiv : mm_fin2 t_IVl (t_CO mi) x = some (a0, b0, d0) := by
                  rcases hb13 with rfl | rfl
                  · exact of_decide_eq_true hrsv
                  · exact of_decide_eq_true hrsv
                have hhd : t_HD a0 = [] := (iv_hd _ (mm_fin2_in hiv)).elim (fun h => by have h : b0 = 2 := h; omega) (fun h => h.elim (fun h => by have h : 5 ≤ b0 := h; omega) id)
                obtain ⟨hna, hiv⟩ := iv_all _ (mm_fin2_in hiv)
                have hna0 : t_NA a0 = d0 := hna.elim (fun h => by have h : 5 ≤ b0 := h; omega) id
                clear hna
                split at hc
                · rename_i a r' hdrop
                  obtain ⟨h1, h2⟩ := mm_bif1 hc
                  cases h2
                  obtain ⟨h3, h4⟩ := mm_andb h1
                  split at hb
                  · cases hb
                  · rename_i v sh' me' dc ds hrun'
                    obtain ⟨⟨c1, c2⟩, k⟩ := go v sh' me' dc ds hb
                    rcases hb13 with rfl | rfl
                    · exact mm_callI ih X I hls hst hdrop (Nat.le_of_ble_eq_true h3) h4 hiv hna0 hhd hd (Nat.le_trans f1 hfr) (Nat.le_trans f2 hlo) c1 c2 hrun' k
                    · exact mm_callN ih X I hls hst hdrop (Nat.le_of_ble_eq_true h3) h4 hiv hna0 hhd hd (Nat.le_trans f1 hfr) (Nat.le_trans f2 hlo) c1 c2 hrun' k
                  · cases hb
                · cases hc
            · -- static
              rename_i x hi
              have hi : i0 = .invokestatic x := hi
              subst hi
              have hd := hdl rfl
              obtain ⟨h1, h2⟩ := mm_bif1 hc
              cases h2
              obtain ⟨h3, h4⟩ := mm_andb h1
              obtain ⟨h5, h6⟩ := mm_andb h4
              obtain ⟨h7, h8⟩ := mm_andb h6
              have hb2 : b0 = 2 := Nat.eq_of_beq_eq_true h7
              subst hb2
              obtain ⟨f1, f2⟩ := mm_rm_s hrm
              obtain ⟨hrs1, hrs2⟩ := mm_andb hrsv
              have hiv := of_decide_eq_true hrs1
              obtain ⟨hna, hiv⟩ := iv_all _ (mm_fin2_in hiv)
              have hna : t_NA a0 = d0 := hna.elim (fun h => absurd (show 5 ≤ 2 from h) (by decide)) id
              have hiv : mm_iv2 (t_CO mi) x a0 := hiv
              split at hb
              · cases hb
              · rename_i v sh' me' dc ds hrun'
                obtain ⟨⟨c1, c2⟩, k⟩ := go v sh' me' dc ds hb
                rcases hiv.2.1 with ⟨hhd, hcd⟩ | hcd
                · exact mm_callS ih X I hls hst (Nat.le_of_ble_eq_true h3) (Nat.le_of_ble_eq_true h5) h8 hiv hna hhd hcd hd (Nat.le_trans f1 hfr) (Nat.le_trans f2 hlo) c1 c2 hrun' k
                · exact mm_callSW ih X I hls hst (Nat.le_of_ble_eq_true h3) (Nat.le_of_ble_eq_true h5) h8 hiv hna hcd hd (Nat.le_trans f1 hfr) (Nat.le_trans f2 hlo) c1 c2 hrun' k
              · cases hb
            · cases hc
end MMQ
