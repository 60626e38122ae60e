/-! What is the same stays the same -/
theorem QR_step {X : hD} {M : mS} {A : aT} {h : xH} (hh : HS X M h) (hC : CL X A) (hR : RF M A) {jc jm : Nat} {as : List Value} (q : QR jc jm as A) : lwStep Sim jc jm as h := by
  obtain ⟨r, A', hA', hc, hm⟩ := q
  obtain ⟨X', h1, e1, H1, C1⟩ := hc X M h hh hC
  obtain ⟨M', e2, R2⟩ := hm h1 M hR
  rw [X_M H1] at e2
  exact ⟨r, h1, pM h1 104 M', e1, ⟨_, H1.2.2.2.2.2.2 0 _ rfl⟩, e2, X', M', A', hA', HS_ref H1 M', C1, R2⟩
theorem ex_dig {X : hD} {M : mS} {A : aT} {h : xH} (hA : AW A) (hh : HS X M h) (hC : CL X A) (hR : RF M A) : lwStepL Sim 94 196 [] h := by
  obtain ⟨S', e1, e2⟩ := c_digX hA hh hC
  have H1 := HS_scene hh (hC.1.1 5 (by decide)) S'
  obtain ⟨M', e3, R2⟩ := m_digX hA (pS h (X.1 5) S') hR
  rw [X_M H1] at e3
  exact ⟨dgX A, _, _, e1, ⟨_, H1.2.2.2.2.2.2 0 _ rfl⟩, e3, _, M', A, hA, HS_ref H1 M', CL_now hA hC e2, R2⟩
theorem ex_sim : ∃ Sim : xH → Prop, lwOK Sim ∧ lwMk Sim := by
  refine ⟨Sim, fun h hS => ?_, _, _, mk_X, rfl, mk_M, Sim_0⟩
  obtain ⟨X, M, A, hA, hh, hC, hR⟩ := hS
  have g : ∀ {jc jm : Nat} {as : List Value}, QR jc jm as A → lwStep Sim jc jm as h := fun q => QR_step hh hC hR q
  refine ⟨⟨by rw [hh.1.1]; decide, hh.1.2.1, hh.1.2.2, ⟨_, hh.2.1 0 _ rfl⟩⟩, fun a1 a2 a3 a4 a5 => g (s_shape hA a1 a2 a3 a4 a5), fun a1 a2 a3 a4 a5 => g (s_moves hA a1 a2 a3 a4 a5), fun a1 a2 => g (s_lifts hA a1 a2), fun a1 a2 => g (s_clips hA a1 a2), fun a1 => g (s_removes hA a1), g (s_drawn hA), fun a1 a2 => g (s_of hA a1 a2), fun a1 a2 => g (s_view hA a1 a2), fun a1 a2 a3 => g (s_hit hA a1 a2 a3), fun a1 a2 a3 a4 => g (s_within hA a1 a2 a3 a4), fun a1 a2 => g (s_nearest hA a1 a2), fun a1 a2 => g (s_damage hA a1 a2), fun a1 => g (s_tree hA a1), fun a1 a2 => g (s_node hA a1 a2), fun a1 => g (s_walk hA a1), fun a1 => g (s_type hA a1), g (s_clear hA), g (s_does hA), g (s_back hA), fun a1 => g (s_told hA a1), ex_dig hA hh hC hR⟩
