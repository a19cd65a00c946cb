/-- both sides hold the same prices, needs, yields, count and goal; at most 14 rules, prices up to 20, at most 8 facts given -/
def i_Rel (_ : Nat) (u : SX) (v : SY) : Prop := ∃ (c : Nat) (g : Int32) (p nd yl : Nat → Int32), u = (nI c, g, p, nd, yl) ∧ v = (nI c, g, p, nd, yl) ∧ c ≤ 14 ∧ (∀ j, ∃ q, q ≤ 20 ∧ p j = nI q) ∧ ag_cn p 12 ≤ 8
theorem i_up {k : Nat} {u : SX} {v : SY} (h : i_Rel k u v) : i_Rel (k + 3) u v := h
theorem i_vc0 : wpX_init (fun u => wpY_init (fun v => i_Rel 0 u v)) :=
  ⟨0, 0, fun _ => 0, fun _ => 0, fun _ => 0, rfl, rfl, by omega, fun _ => ⟨0, by omega, nI_0.symm⟩, by decide⟩
theorem i_vc_give {k : Nat} {u : SX} {v : SY} (I : i_Rel k u v) (hk : k + 3 ≤ 1536) (v1 : Int32) (v2 : Int32) : wpX_give (fun r u' => wpY_give (fun r' v' => r' = r ∧ i_Rel (k + 3) u' v') v v1 v2) u v1 v2 := by
  obtain ⟨c, g, p, nd, yl, rfl, rfl, hc, hp, hn⟩ := I
  obtain ⟨r, p', hp', hn', hX, hY⟩ := ac_give (c := c) (g := g) (p := p) (nd := nd) (yl := yl) hp hn v1 v2
  exact hX _ (hY _ ⟨rfl, c, g, p', nd, yl, rfl, rfl, hc, hp', hn'⟩)
theorem i_vc_take {k : Nat} {u : SX} {v : SY} (I : i_Rel k u v) (hk : k + 3 ≤ 1536) (v1 : Int32) : wpX_take (fun r u' => wpY_take (fun r' v' => r' = r ∧ i_Rel (k + 3) u' v') v v1) u v1 := by
  obtain ⟨c, g, p, nd, yl, rfl, rfl, hc, hp, hn⟩ := I
  obtain ⟨r, p', hp', hn', hX, hY⟩ := ac_take (c := c) (g := g) (p := p) (nd := nd) (yl := yl) hp hn v1
  exact hX _ (hY _ ⟨rfl, c, g, p', nd, yl, rfl, rfl, hc, hp', hn'⟩)
theorem i_vc_rule {k : Nat} {u : SX} {v : SY} (I : i_Rel k u v) (hk : k + 3 ≤ 1536) (v1 : Int32) (v2 : Int32) : wpX_rule (fun r u' => wpY_rule (fun r' v' => r' = r ∧ i_Rel (k + 3) u' v') v v1 v2) u v1 v2 := by
  obtain ⟨c, g, p, nd, yl, rfl, rfl, hc, hp, hn⟩ := I
  obtain ⟨r, c', nd', yl', hc', hX, hY⟩ := ac_rule (c := c) (g := g) (p := p) (nd := nd) (yl := yl) hc v1 v2
  exact hX _ (hY _ ⟨rfl, c', g, p, nd', yl', rfl, rfl, hc', hp, hn⟩)
theorem i_vc_unrule {k : Nat} {u : SX} {v : SY} (I : i_Rel k u v) (hk : k + 3 ≤ 1536) : wpX_unrule (fun r u' => wpY_unrule (fun r' v' => r' = r ∧ i_Rel (k + 3) u' v') v) u := by
  obtain ⟨c, g, p, nd, yl, rfl, rfl, hc, hp, hn⟩ := I
  obtain ⟨r, c', hc', hX, hY⟩ := ac_unrule (c := c) (g := g) (p := p) (nd := nd) (yl := yl) hc
  exact hX _ (hY _ ⟨rfl, c', g, p, nd, yl, rfl, rfl, hc', hp, hn⟩)
theorem i_vc_rules {k : Nat} {u : SX} {v : SY} (I : i_Rel k u v) (hk : k + 3 ≤ 1536) : wpX_rules (fun r => wpY_rules (fun r' => r' = r ∧ i_Rel (k + 3) u v) v) u := by
  obtain ⟨c, g, p, nd, yl, rfl, rfl, hc, hp, hn⟩ := I
  exact ⟨rfl, c, g, p, nd, yl, rfl, rfl, hc, hp, hn⟩
theorem i_vc_goal {k : Nat} {u : SX} {v : SY} (I : i_Rel k u v) (hk : k + 3 ≤ 1536) (v1 : Int32) : wpX_goal (fun r u' => wpY_goal (fun r' v' => r' = r ∧ i_Rel (k + 3) u' v') v v1) u v1 := by
  obtain ⟨c, g, p, nd, yl, rfl, rfl, hc, hp, hn⟩ := I
  obtain ⟨r, g', hX, hY⟩ := ac_goal (c := c) (g := g) (p := p) (nd := nd) (yl := yl) v1
  exact hX _ (hY _ ⟨rfl, c, g', p, nd, yl, rfl, rfl, hc, hp, hn⟩)
theorem i_vc_given {k : Nat} {u : SX} {v : SY} (I : i_Rel k u v) (hk : k + 3 ≤ 1536) : wpX_given (fun r => wpY_given (fun r' => r' = r ∧ i_Rel (k + 3) u v) v) u := by
  obtain ⟨c, g, p, nd, yl, rfl, rfl, hc, hp, hn⟩ := I
  exact ax_given (ay_given hp ⟨rfl, c, g, p, nd, yl, rfl, rfl, hc, hp, hn⟩)
theorem i_vc_reached {k : Nat} {u : SX} {v : SY} (I : i_Rel k u v) (hk : k + 3 ≤ 1536) : wpX_reached (fun r => wpY_reached (fun r' => r' = r ∧ i_Rel (k + 3) u v) v) u := by
  obtain ⟨c, g, p, nd, yl, rfl, rfl, hc, hp, hn⟩ := I
  exact ax_reached hc (ay_reached hc hp ⟨rfl, c, g, p, nd, yl, rfl, rfl, hc, hp, hn⟩)
theorem i_vc_supports {k : Nat} {u : SX} {v : SY} (I : i_Rel k u v) (hk : k + 3 ≤ 1536) (v1 : Int32) : wpX_supports (fun r => wpY_supports (fun r' => r' = r ∧ i_Rel (k + 3) u v) v v1) u v1 := by
  obtain ⟨c, g, p, nd, yl, rfl, rfl, hc, hp, hn⟩ := I
  obtain ⟨r, hX, hY⟩ := ac_supports (c := c) (g := g) (p := p) (nd := nd) (yl := yl) hc hp v1
  exact hX _ (hY _ ⟨rfl, c, g, p, nd, yl, rfl, rfl, hc, hp, hn⟩)
theorem i_vc_leastSupports {k : Nat} {u : SX} {v : SY} (I : i_Rel k u v) (hk : k + 3 ≤ 1536) : wpX_leastSupports (fun r => wpY_leastSupports (fun r' => r' = r ∧ i_Rel (k + 3) u v) v) u := by
  obtain ⟨c, g, p, nd, yl, rfl, rfl, hc, hp, hn⟩ := I
  exact ax_leastSupports hc (ay_leastSupports hc hp ⟨rfl, c, g, p, nd, yl, rfl, rfl, hc, hp, hn⟩)
theorem i_vc_cheapestSupport {k : Nat} {u : SX} {v : SY} (I : i_Rel k u v) (hk : k + 3 ≤ 1536) : wpX_cheapestSupport (fun r => wpY_cheapestSupport (fun r' => r' = r ∧ i_Rel (k + 3) u v) v) u := by
  obtain ⟨c, g, p, nd, yl, rfl, rfl, hc, hp, hn⟩ := I
  exact ax_cheapestSupport hc (ay_cheapestSupport hc hp ⟨rfl, c, g, p, nd, yl, rfl, rfl, hc, hp, hn⟩)
theorem i_vc_cheapestShield {k : Nat} {u : SX} {v : SY} (I : i_Rel k u v) (hk : k + 3 ≤ 1536) : wpX_cheapestShield (fun r => wpY_cheapestShield (fun r' => r' = r ∧ i_Rel (k + 3) u v) v) u := by
  obtain ⟨c, g, p, nd, yl, rfl, rfl, hc, hp, hn⟩ := I
  exact ac_cheapestX hc (ac_cheapestY hc hp ⟨rfl, c, g, p, nd, yl, rfl, rfl, hc, hp, hn⟩)
theorem i_vc_shield {k : Nat} {u : SX} {v : SY} (I : i_Rel k u v) (hk : k + 3 ≤ 1536) : wpX_shield (fun r => wpY_shield (fun r' => r' = r ∧ i_Rel (k + 3) u v) v) u := by
  obtain ⟨c, g, p, nd, yl, rfl, rfl, hc, hp, hn⟩ := I
  unfold wpX_shield
  try dsimp only
  refine ax_best hc ?_
  unfold wpY_shield
  try dsimp only
  exact ay_best hc hp ⟨rfl, c, g, p, nd, yl, rfl, rfl, hc, hp, hn⟩
theorem i_vc_smallestShield {k : Nat} {u : SX} {v : SY} (I : i_Rel k u v) (hk : k + 3 ≤ 1536) : wpX_smallestShield (fun r => wpY_smallestShield (fun r' => r' = r ∧ i_Rel (k + 3) u v) v) u := by
  obtain ⟨c, g, p, nd, yl, rfl, rfl, hc, hp, hn⟩ := I
  exact ax_smallestShield hc (ay_smallestShield hc hp ⟨rfl, c, g, p, nd, yl, rfl, rfl, hc, hp, hn⟩)
theorem i_vc_vital {k : Nat} {u : SX} {v : SY} (I : i_Rel k u v) (hk : k + 3 ≤ 1536) : wpX_vital (fun r => wpY_vital (fun r' => r' = r ∧ i_Rel (k + 3) u v) v) u := by
  obtain ⟨c, g, p, nd, yl, rfl, rfl, hc, hp, hn⟩ := I
  exact ax_vital hc (ay_vital hc hp ⟨rfl, c, g, p, nd, yl, rfl, rfl, hc, hp, hn⟩)
theorem i_vc_useful {k : Nat} {u : SX} {v : SY} (I : i_Rel k u v) (hk : k + 3 ≤ 1536) : wpX_useful (fun r => wpY_useful (fun r' => r' = r ∧ i_Rel (k + 3) u v) v) u := by
  obtain ⟨c, g, p, nd, yl, rfl, rfl, hc, hp, hn⟩ := I
  exact ax_useful hc (ay_useful hc hp ⟨rfl, c, g, p, nd, yl, rfl, rfl, hc, hp, hn⟩)
theorem i_vc_shieldWith {k : Nat} {u : SX} {v : SY} (I : i_Rel k u v) (hk : k + 3 ≤ 1536) (v1 : Int32) : wpX_shieldWith (fun r => wpY_shieldWith (fun r' => r' = r ∧ i_Rel (k + 3) u v) v v1) u v1 := by
  obtain ⟨c, g, p, nd, yl, rfl, rfl, hc, hp, hn⟩ := I
  obtain ⟨r, hX, hY⟩ := ac_shieldWith (c := c) (g := g) (p := p) (nd := nd) (yl := yl) hc hp v1
  exact hX _ (hY _ ⟨rfl, c, g, p, nd, yl, rfl, rfl, hc, hp, hn⟩)
