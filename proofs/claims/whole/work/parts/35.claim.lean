/-! THE CLAIM: every pair of calls agrees, so the law comes to 1 under every script (written by wip/whole/gen/final_part.py). -/
section MMAZ
theorem all_pairs : pairs INV := ⟨pr_0, pr_1, pr_2, pr_3, pr_4, pr_5, pr_6, pr_7, pr_8, pr_9, pr_10, pr_11, pr_12, pr_13, pr_14, pr_15, pr_16⟩
theorem law_holds : law_goal := law_pure all_pairs INV0
end MMAZ
theorem i_vc : Claimed_1_1 ∧ Claimed_1_2 := ⟨lw_limb law_holds limb_1_1 (fun args s t => by simp [limb_1_1, Cond.after, Cond.holds, Cond.value]), lw_limb law_holds limb_1_2 (fun args s t => Cond.after_iff.mpr (by
  first | (rw [show limb_1_2 = Cond.eq .result (.int 1) from rfl, Cond.eq_ints (x := 1) (y := 1) rfl rfl]; simp; done) | (simp [limb_1_2, Cond.value, Term.eval]; done)))⟩
