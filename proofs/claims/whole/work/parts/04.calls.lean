section
variable {c : Nat} {g : Int32} {p nd yl : Nat → Int32}
/-- a call that only reads: one answer, asked by both sides -/
theorem ac_isSetX {post : Int32 → Prop} {x : Int32} (h1 : ¬ x < 0 → ¬ 4095 < x → post 1) (h0 : x < 0 ∨ 4095 < x → post 0) : wpX_isSet post x :=
  br_c (fun h => h0 (Or.inl h)) (fun h => br_c (fun h2 => h0 (Or.inr h2)) (fun h2 => h1 h h2))
theorem ac_supports (hc : c ≤ 14) (hp : ∀ j, ∃ q, q ≤ 20 ∧ p j = nI q) (x : Int32) : ∃ r, (∀ post : Int32 → Prop, post r → wpX_supports post (nI c, g, p, nd, yl) x) ∧ (∀ post : Int32 → Prop, post r → wpY_supports post (nI c, g, p, nd, yl) x) := by
  by_cases a : x < 0
  · refine ⟨0, fun post h => ?_, fun post h => ?_⟩
    · unfold wpX_supports
      try dsimp only
      exact ac_isSetX (fun q => absurd a q) (fun _ => ag_n h)
    · exact br_t a h
  · by_cases b : 4095 < x
    · refine ⟨0, fun post h => ?_, fun post h => ?_⟩
      · unfold wpX_supports
        try dsimp only
        exact ac_isSetX (fun _ q => absurd b q) (fun _ => ag_n h)
      · exact br_f a (br_t b h)
    · cases s : ag_sup c g nd yl (x &&& ag_gv p)
      · refine ⟨0, fun post h => ?_, fun post h => ?_⟩
        · unfold wpX_supports
          try dsimp only
          exact ac_isSetX (fun _ _ => ag_y (ax_given (ax_reachesGoal hc (fun t => absurd s (ag_tf t)) (fun _ => ⟨rfl, h⟩)))) (fun q => absurd q (fun t => t.elim a b))
        · exact br_f a (br_f b (ay_given hp (ay_isSupport hc (fun t => absurd s (ag_tf t)) (fun _ => ag_n h))))
      · refine ⟨1, fun post h => ?_, fun post h => ?_⟩
        · unfold wpX_supports
          try dsimp only
          exact ac_isSetX (fun _ _ => ag_y (ax_given (ax_reachesGoal hc (fun _ => ⟨rfl, h⟩) (fun t => absurd s (ag_ff t))))) (fun q => absurd q (fun t => t.elim a b))
        · exact br_f a (br_f b (ay_given hp (ay_isSupport hc (fun _ => ag_y h) (fun t => absurd s (ag_ff t)))))
theorem ac_shieldWith (hc : c ≤ 14) (hp : ∀ j, ∃ q, q ≤ 20 ∧ p j = nI q) (x : Int32) : ∃ r, (∀ post : Int32 → Prop, post r → wpX_shieldWith post (nI c, g, p, nd, yl) x) ∧ (∀ post : Int32 → Prop, post r → wpY_shieldWith post (nI c, g, p, nd, yl) x) := by
  by_cases F : ag_F x
  · obtain ⟨j, hj, e⟩ := F
    have F : ag_F x := ⟨j, hj, e⟩
    have hi : vp_in x 12 := by rw [e]; exact vp_in_nI hj (by decide)
    by_cases z : p x.toNatClampNeg = 0
    · refine ⟨-4, fun post h => ?_, fun post h => ?_⟩
      · unfold wpX_shieldWith
        try dsimp only
        exact ax_isFact (fun _ => ag_y ⟨hi, br_t z h⟩) (fun q => absurd F q)
      · unfold wpY_shieldWith
        try dsimp only
        exact ay_isFact (fun _ => ag_y ⟨hi, br_t z h⟩) (fun q => absurd F q)
    · refine ⟨ag_cs c g p nd yl ((1 : Int32) <<< (x &&& 31)), fun post h => ?_, fun post h => ?_⟩
      · unfold wpX_shieldWith
        try dsimp only
        exact ax_isFact (fun _ => ag_y ⟨hi, br_f z (ax_cs hc h)⟩) (fun q => absurd F q)
      · unfold wpY_shieldWith
        try dsimp only
        exact ay_isFact (fun _ => ag_y ⟨hi, br_f z (ay_cs hc hp h)⟩) (fun q => absurd F q)
  · refine ⟨-1, fun post h => ?_, fun post h => ?_⟩
    · unfold wpX_shieldWith
      try dsimp only
      exact ax_isFact (fun q => absurd q F) (fun _ => ag_n h)
    · unfold wpY_shieldWith
      try dsimp only
      exact ay_isFact (fun q => absurd q F) (fun _ => ag_n h)
theorem ac_hpu (hp : ∀ j, ∃ q, q ≤ 20 ∧ p j = nI q) (f : Nat) {x : Int32} (hx : ∃ q, q ≤ 20 ∧ x = nI q) : ∀ j, ∃ q, q ≤ 20 ∧ upd p f x j = nI q := by
  intro j
  by_cases e : j = f
  · have e2 : upd p f x j = x := if_pos e
    rw [e2]
    exact hx
  · have e2 : upd p f x j = p j := if_neg e
    rw [e2]
    exact hp j
theorem ac_cnu {f : Nat} (hf : f < 12) {x : Int32} (hn : ag_cn p 12 ≤ 8) (h : p f = 0 → ag_cn p 12 < 8) : ag_cn (upd p f x) 12 ≤ 8 := by
  have t := ag_cn_lo p f x 12 hf
  have t2 : (if x = 0 then 0 else 1) ≤ 1 := by
    by_cases q : x = 0
    · rw [if_pos q]; omega
    · rw [if_neg q]; omega
  by_cases z : p f = 0
  · have h' := h z
    rw [if_pos z] at t
    omega
  · rw [if_neg z] at t
    omega
theorem ac_give (hp : ∀ j, ∃ q, q ≤ 20 ∧ p j = nI q) (hn : ag_cn p 12 ≤ 8) (x y : Int32) : ∃ r p', (∀ j, ∃ q, q ≤ 20 ∧ p' j = nI q) ∧ ag_cn p' 12 ≤ 8 ∧ (∀ post : Int32 → SX → Prop, post r (nI c, g, p', nd, yl) → wpX_give post (nI c, g, p, nd, yl) x y) ∧ (∀ post : Int32 → SY → Prop, post r (nI c, g, p', nd, yl) → wpY_give post (nI c, g, p, nd, yl) x y) := by
  by_cases F : ag_F x
  · obtain ⟨j, hj, e⟩ := F
    have F : ag_F x := ⟨j, hj, e⟩
    by_cases y1 : y < 1
    · refine ⟨-1, p, hp, hn, fun post h => ?_, fun post h => ?_⟩
      · unfold wpX_give
        try dsimp only
        exact ax_isFact (fun _ => ag_y (br_t y1 h)) (fun q => absurd F q)
      · unfold wpY_give
        try dsimp only
        exact ay_isFact (fun _ => ag_y (br_t y1 h)) (fun q => absurd F q)
    · by_cases y2 : y ≤ 20
      · have hi : vp_in x 12 := by rw [e]; exact vp_in_nI hj (by decide)
        have hcl : x.toNatClampNeg = j := by rw [e]; exact nI_clamp (by omega)
        have hy : ∃ q, q ≤ 20 ∧ y = nI q := nI_of2 (M := 20) (by decide) (fun t => y1 (Int32.lt_trans t (by decide))) y2
        by_cases z : p j = 0
        · by_cases f8 : ag_cn p 12 = 8
          · refine ⟨-2, p, hp, hn, fun post h => ?_, fun post h => ?_⟩
            · unfold wpX_give
              try dsimp only
              rw [hcl]
              refine ax_isFact (fun _ => ag_y (br_f y1 (br_t y2 ⟨hi, nm_e (br_t z (ax_givenCount (br_f ?_ h)))⟩))) (fun q => absurd F q)
              rw [f8, ← ag_l8]
              exact nI_nlt (by omega) (by omega)
            · unfold wpY_give
              try dsimp only
              rw [hcl]
              refine ay_isFact (fun _ => ag_y (br_f y1 (br_t y2 ⟨hi, br_t z (ay_given hp (ay_sizeOf (br_t ?_ h)))⟩))) (fun q => absurd F q)
              rw [ag_szg, f8, ← ag_l8]
          · refine ⟨p j, upd p j y, ac_hpu hp j hy, ac_cnu hj hn (fun _ => by omega), fun post h => ?_, fun post h => ?_⟩
            · unfold wpX_give
              try dsimp only
              rw [hcl]
              refine ax_isFact (fun _ => ag_y (br_f y1 (br_t y2 ⟨hi, nm_e (br_t z (ax_givenCount (br_t ?_ ⟨hi, nm_e h⟩)))⟩))) (fun q => absurd F q)
              rw [← ag_l8]
              exact nI_lt (by omega) (by omega)
            · unfold wpY_give
              try dsimp only
              rw [hcl]
              refine ay_isFact (fun _ => ag_y (br_f y1 (br_t y2 ⟨hi, br_t z (ay_given hp (ay_sizeOf (br_f ?_ ?_)))⟩))) (fun q => absurd F q)
              · rw [ag_szg, ← ag_l8, nI_eq (by omega) (by omega)]
                exact f8
              · unfold wY_give_46
                rw [hcl]
                exact ⟨hi, nm_e ⟨hi, nm_e h⟩⟩
        · refine ⟨p j, upd p j y, ac_hpu hp j hy, ac_cnu hj hn (fun t => absurd t z), fun post h => ?_, fun post h => ?_⟩
          · unfold wpX_give
            try dsimp only
            rw [hcl]
            exact ax_isFact (fun _ => ag_y (br_f y1 (br_t y2 ⟨hi, nm_e (br_f z ⟨hi, nm_e h⟩)⟩))) (fun q => absurd F q)
          · unfold wpY_give
            try dsimp only
            rw [hcl]
            refine ay_isFact (fun _ => ag_y (br_f y1 (br_t y2 ⟨hi, br_f z ?_⟩))) (fun q => absurd F q)
            unfold wY_give_46
            rw [hcl]
            exact ⟨hi, nm_e ⟨hi, nm_e h⟩⟩
      · refine ⟨-1, p, hp, hn, fun post h => ?_, fun post h => ?_⟩
        · unfold wpX_give
          try dsimp only
          exact ax_isFact (fun _ => ag_y (br_f y1 (br_f y2 h))) (fun q => absurd F q)
        · unfold wpY_give
          try dsimp only
          exact ay_isFact (fun _ => ag_y (br_f y1 (br_f y2 h))) (fun q => absurd F q)
  · refine ⟨-1, p, hp, hn, fun post h => ?_, fun post h => ?_⟩
    · unfold wpX_give
      try dsimp only
      exact ax_isFact (fun q => absurd q F) (fun _ => ag_n h)
    · unfold wpY_give
      try dsimp only
      exact ay_isFact (fun q => absurd q F) (fun _ => ag_n h)
theorem ac_take (hp : ∀ j, ∃ q, q ≤ 20 ∧ p j = nI q) (hn : ag_cn p 12 ≤ 8) (x : Int32) : ∃ r p', (∀ j, ∃ q, q ≤ 20 ∧ p' j = nI q) ∧ ag_cn p' 12 ≤ 8 ∧ (∀ post : Int32 → SX → Prop, post r (nI c, g, p', nd, yl) → wpX_take post (nI c, g, p, nd, yl) x) ∧ (∀ post : Int32 → SY → Prop, post r (nI c, g, p', nd, yl) → wpY_take post (nI c, g, p, nd, yl) x) := by
  by_cases F : ag_F x
  · obtain ⟨j, hj, e⟩ := F
    have F : ag_F x := ⟨j, hj, e⟩
    have hi : vp_in x 12 := by rw [e]; exact vp_in_nI hj (by decide)
    have hcl : x.toNatClampNeg = j := by rw [e]; exact nI_clamp (by omega)
    by_cases z : p j = 0
    · refine ⟨-4, p, hp, hn, fun post h => ?_, fun post h => ?_⟩
      · unfold wpX_take
        try dsimp only
        rw [hcl]
        exact ax_isFact (fun _ => ag_y ⟨hi, nm_e (br_t z h)⟩) (fun q => absurd F q)
      · unfold wpY_take
        try dsimp only
        rw [hcl]
        exact ay_isFact (fun _ => ag_y ⟨hi, br_t z h⟩) (fun q => absurd F q)
    · refine ⟨p j, upd p j 0, ac_hpu hp j ⟨0, by omega, nI_0.symm⟩, ac_cnu hj hn (fun t => absurd t z), fun post h => ?_, fun post h => ?_⟩
      · unfold wpX_take
        try dsimp only
        rw [hcl]
        exact ax_isFact (fun _ => ag_y ⟨hi, nm_e (br_f z ⟨hi, nm_e h⟩)⟩) (fun q => absurd F q)
      · unfold wpY_take
        try dsimp only
        rw [hcl]
        exact ay_isFact (fun _ => ag_y ⟨hi, br_f z ⟨hi, nm_e ⟨hi, nm_e h⟩⟩⟩) (fun q => absurd F q)
  · refine ⟨-1, p, hp, hn, fun post h => ?_, fun post h => ?_⟩
    · unfold wpX_take
      try dsimp only
      exact ax_isFact (fun q => absurd q F) (fun _ => ag_n h)
    · unfold wpY_take
      try dsimp only
      exact ay_isFact (fun q => absurd q F) (fun _ => ag_n h)
theorem ac_rule (hc : c ≤ 14) (x y : Int32) : ∃ r c' nd' yl', c' ≤ 14 ∧ (∀ post : Int32 → SX → Prop, post r (nI c', g, p, nd', yl') → wpX_rule post (nI c, g, p, nd, yl) x y) ∧ (∀ post : Int32 → SY → Prop, post r (nI c', g, p, nd', yl') → wpY_rule post (nI c, g, p, nd, yl) x y) := by
  by_cases a : x < 0
  · refine ⟨-1, c, nd, yl, hc, fun post h => ?_, fun post h => ?_⟩
    · unfold wpX_rule
      try dsimp only
      exact ac_isSetX (fun q => absurd a q) (fun _ => ag_n h)
    · exact br_t a h
  · by_cases b : 4095 < x
    · refine ⟨-1, c, nd, yl, hc, fun post h => ?_, fun post h => ?_⟩
      · unfold wpX_rule
        try dsimp only
        exact ac_isSetX (fun _ q => absurd b q) (fun _ => ag_n h)
      · exact br_f a (br_t b h)
    · have ab : x < 0 ∨ 4095 < x → False := fun t => t.elim a b
      by_cases F : ag_F y
      · by_cases f : c = 14
        · have h1 : ¬ nI c < 14 := by rw [f, ← ag_l14]; exact nI_nlt (by omega) (by omega)
          have h2 : nI c = 14 := by rw [f, ag_l14]
          refine ⟨-2, c, nd, yl, hc, fun post h => ?_, fun post h => ?_⟩
          · unfold wpX_rule
            try dsimp only
            exact ac_isSetX (fun _ _ => ag_y (ax_isFact (fun _ => ag_y (br_f h1 h)) (fun q => absurd F q))) (fun q => (ab q).elim)
          · exact br_f a (br_f b (ay_isFact (fun _ => ag_y (br_t h2 h)) (fun q => absurd F q)))
        · have h1 : nI c < 14 := by rw [← ag_l14]; exact nI_lt (by omega) (by omega)
          have h2 : ¬ nI c = 14 := by rw [← ag_l14, nI_eq (by omega) (by omega)]; exact f
          have hi : vp_in (nI c) 14 := vp_in_nI (by omega) (by decide)
          have hcl : (nI c).toNatClampNeg = c := nI_clamp (by omega)
          refine ⟨nI c, c + 1, upd nd c x, upd yl c y, by omega, fun post h => ?_, fun post h => ?_⟩
          · unfold wpX_rule
            try dsimp only
            rw [hcl]
            exact ac_isSetX (fun _ _ => ag_y (ax_isFact (fun _ => ag_y (br_t h1 ⟨hi, nm_e ⟨hi, nm_e (nm_r (nI_1 c) h)⟩⟩)) (fun q => absurd F q))) (fun q => (ab q).elim)
          · unfold wpY_rule
            try dsimp only
            rw [hcl]
            refine br_f a (br_f b (ay_isFact (fun _ => ag_y (br_f h2 ⟨hi, nm_e ⟨hi, nm_e (nm_r (nI_1 c) ?_)⟩⟩)) (fun q => absurd F q)))
            rw [nI_pred]
            exact h
      · refine ⟨-1, c, nd, yl, hc, fun post h => ?_, fun post h => ?_⟩
        · unfold wpX_rule
          try dsimp only
          exact ac_isSetX (fun _ _ => ag_y (ax_isFact (fun q => absurd q F) (fun _ => ag_n h))) (fun q => (ab q).elim)
        · exact br_f a (br_f b (ay_isFact (fun q => absurd q F) (fun _ => ag_n h)))
theorem ac_unrule (hc : c ≤ 14) : ∃ r c', c' ≤ 14 ∧ (∀ post : Int32 → SX → Prop, post r (nI c', g, p, nd, yl) → wpX_unrule post (nI c, g, p, nd, yl)) ∧ (∀ post : Int32 → SY → Prop, post r (nI c', g, p, nd, yl) → wpY_unrule post (nI c, g, p, nd, yl)) := by
  cases c with
  | zero =>
    have h1 : ¬ (0 : Int32) < nI 0 := by decide
    have h2 : nI 0 = 0 := nI_0
    exact ⟨-4, 0, hc, fun post h => br_f h1 h, fun post h => br_t h2 h⟩
  | succ m =>
    have h1 : (0 : Int32) < nI (m + 1) := by rw [← nI_0]; exact nI_lt (by omega) (by omega)
    have h2 : ¬ nI (m + 1) = 0 := nI_ne0 (by omega) (by omega)
    exact ⟨nI m, m, by omega, fun post h => br_t h1 (nm_r (nI_pred m) h), fun post h => br_f h2 (nm_r (nI_pred m) h)⟩
theorem ac_goal (x : Int32) : ∃ r g', (∀ post : Int32 → SX → Prop, post r (nI c, g', p, nd, yl) → wpX_goal post (nI c, g, p, nd, yl) x) ∧ (∀ post : Int32 → SY → Prop, post r (nI c, g', p, nd, yl) → wpY_goal post (nI c, g, p, nd, yl) x) := by
  by_cases F : ag_F x
  · refine ⟨g, x, fun post h => ?_, fun post h => ?_⟩
    · unfold wpX_goal
      try dsimp only
      exact ax_isFact (fun _ => ag_y h) (fun q => absurd F q)
    · unfold wpY_goal
      try dsimp only
      exact ay_isFact (fun _ => ag_y h) (fun q => absurd F q)
  · refine ⟨-1, g, fun post h => ?_, fun post h => ?_⟩
    · unfold wpX_goal
      try dsimp only
      exact ax_isFact (fun q => absurd q F) (fun _ => ag_n h)
    · unfold wpY_goal
      try dsimp only
      exact ay_isFact (fun q => absurd q F) (fun _ => ag_n h)
theorem ac_cheapestX (hc : c ≤ 14) {post : Int32 → Prop} (h : post (ag_cs c g p nd yl 0)) : wpX_cheapestShield post (nI c, g, p, nd, yl) := by
  unfold wpX_cheapestShield
  try dsimp only
  exact ax_cs (post := post) hc h
theorem ac_cheapestY (hc : c ≤ 14) (hp : ∀ j, ∃ q, q ≤ 20 ∧ p j = nI q) {post : Int32 → Prop} (h : post (ag_cs c g p nd yl 0)) : wpY_cheapestShield post (nI c, g, p, nd, yl) := by
  unfold wpY_cheapestShield
  try dsimp only
  exact ay_cs (post := post) hc hp h
end
