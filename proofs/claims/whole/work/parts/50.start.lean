/-! The start: both as they are made are alike. -/
def kI_σ : kt_S := fun q => if q = 3 then fun _ => -1 else if q = 1 then (fun f => if f = 5 then 1 else 0) else if q = 2 then (fun f => if f = 2 then -1 else 0) else if q = 20 then (fun f => if f = 0 then 1 else 0) else if q = 24 then (fun f => if f = 0 then 2 else 0) else if q = 28 then (fun f => if f = 0 then 3 else 0) else fun _ => 0
def kI_τ : kt_S := fun q => if q = 1 then fun _ => -1 else if q = 0 then (fun f => if f = 5 then 1 else if f = 4 then -1 else 0) else fun _ => 0
theorem kR_init : kR 0 kI_σ kI_τ := by
  have hon : kv_on (kI_σ 3) 0 := by
    refine ⟨⟨by omega, fun p hp => Or.inl (fun k hk => rfl)⟩, fun p hp h => absurd rfl h, fun p q hp hq _ h => absurd rfl h, ⟨0, by omega, rfl⟩⟩
  refine ⟨⟨rfl, rfl, rfl, Or.inl rfl, fun p hp h => absurd rfl h, fun _ => hon, fun _ => Or.inl hon⟩, ⟨rfl, Or.inr rfl, rfl, Or.inl rfl, rfl, rfl, fun z => absurd (show (1 : Int32) = 0 from z) (by decide)⟩, ⟨rfl, rfl, ⟨0, by omega, rfl, rfl⟩, fun i hi => ⟨0, by omega, rfl⟩⟩, ⟨0, 0, by omega, by omega, rfl, rfl, rfl, fun j hj => absurd hj (by omega), fun j h1 h2 => absurd h2 (by omega)⟩, ⟨rfl, rfl, Or.inl rfl, 0, 0, by omega, by omega, rfl, rfl, rfl, fun j hj => absurd hj (by omega)⟩, ⟨⟨0, by omega, rfl, rfl⟩, ⟨0, by omega, rfl, rfl⟩, ⟨0, by omega, rfl, rfl⟩, ⟨0, by omega, rfl, rfl⟩⟩, ⟨fun r w hr hw => rfl, fun k i hk h4 hi hik hki => ?_⟩, kR_par_of ?_ ?_ ?_ ?_⟩
  · have h4' : nI 0 = nI k := h4
    have := (kn_eq (by omega) hk).mp h4'
    omega
  · exact ⟨rfl, ⟨0, by omega, rfl, rfl, fun i j hi => absurd hi (by omega)⟩, ⟨0, by omega, rfl, rfl⟩, ⟨0, by omega, rfl, rfl⟩, fun k hk => ⟨rfl, rfl, rfl⟩⟩
  · exact ⟨rfl, ⟨0, by omega, rfl, rfl, fun i j hi => absurd hi (by omega)⟩, ⟨0, by omega, rfl, rfl⟩, ⟨0, by omega, rfl, rfl⟩, fun k hk => ⟨rfl, rfl, rfl⟩⟩
  · exact ⟨rfl, ⟨0, by omega, rfl, rfl, fun i j hi => absurd hi (by omega)⟩, ⟨0, by omega, rfl, rfl⟩, ⟨0, by omega, rfl, rfl⟩, fun k hk => ⟨rfl, rfl, rfl⟩⟩
  · exact ⟨rfl, ⟨0, by omega, rfl, rfl, fun i j hi => absurd hi (by omega)⟩, ⟨0, by omega, rfl, rfl⟩, ⟨0, by omega, rfl, rfl⟩, fun k hk => ⟨rfl, rfl, rfl⟩⟩
