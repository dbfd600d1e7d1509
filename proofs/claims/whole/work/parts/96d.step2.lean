theorem X4_act_eq {M : qM} {A : qN} (h : qC 48 M A) (hw : qW A) (hl : ∀ g, g < 10 → M (60 + 2) g = nI (sL A g)) {k v x : Nat} (ha : aV k v x) : qOk (kX4_act M (nI k) (nI v) (nI x)) (fun N => (∀ c, c < 48 ∨ 60 ≤ c → N c = M c) ∧ qC 48 N (yA A k v x)) := by
  unfold kX4_act
  rw [qOk_b1]
  rcases ha with ⟨rfl, hv, hx⟩ | ⟨rfl, hv⟩ | ⟨rfl, hv, hx⟩ | ⟨rfl, hx⟩ | rfl
  · rw [if_pos (show nI 0 = (0 : Int32) from rfl), qwr_k hv (by omega), qOk_some, qOk_some]
    refine ⟨fun c hc => by rw [qst_n (by omega)], ?_⟩
    have := h.set_no v (x + 1)
    rw [nI_pred] at this
    exact this
  · rw [if_neg (show ¬ nI 1 = (0 : Int32) from by decide), if_pos (show nI 1 = (1 : Int32) from rfl), qwr_k hv (by omega), qOk_some, qOk_some]
    refine ⟨fun c hc => by rw [qst_n (by omega)], ?_⟩
    exact h.set_no v 0
  · rw [if_neg (show ¬ nI 2 = (0 : Int32) from by decide), if_neg (show ¬ nI 2 = (1 : Int32) from by decide), if_pos (show nI 2 = (2 : Int32) from rfl), qwr_k hv (by omega), qOk_some, qOk_some]
    exact ⟨fun c hc => by rw [qst_n (by omega)], h.set_pl v x⟩
  · rw [if_neg (show ¬ nI 3 = (0 : Int32) from by decide), if_neg (show ¬ nI 3 = (1 : Int32) from by decide), if_neg (show ¬ nI 3 = (2 : Int32) from by decide), if_pos (show nI 3 = (3 : Int32) from rfl), h.cl, shl1 (by omega), fa_xor, qvl_eq, qOk_some, qOk_some]
    exact ⟨fun c hc => by rw [qst_n (by omega)], h.set_cl _⟩
  · rw [if_neg (show ¬ nI 4 = (0 : Int32) from by decide), if_neg (show ¬ nI 4 = (1 : Int32) from by decide), if_neg (show ¬ nI 4 = (2 : Int32) from by decide), if_neg (show ¬ nI 4 = (3 : Int32) from by decide), qOk_b1]
    refine qOk.m (X4_passBeat_eq h hw (fun g _ => by have := sL_le hw g; omega) hl) (fun N ⟨n1, n2⟩ => ?_)
    rw [qOk_some, qOk_some]
    exact ⟨fun c hc => n1 c (by omega) (by omega) (by omega) (by omega), n2⟩
