/-! WHERE A READING FAILS -/
theorem jO_fb {t : Int → Int} {T fb key half e : Int} {c : Int → Int} (T0 : 0 ≤ T) (h : jO t T 0 fb key half e c) : 0 ≤ fb ∧ fb ≤ T := by
  have bb := gSn_bd (t := t) (lo := 32) (hi := 32) T0
  have eb : jB0 t T = gSn t T 32 32 0 := rfl
  rw [← eb] at bb
  unfold jO at h
  generalize jB0 t T = b at *
  have nx := jNx_bd (t := t) bb.2
  rcases h with ⟨_, _, k⟩ | ⟨k3, kv, k1, b2, o2, c2, d1, rest⟩
  · omega
  · have rb := jR_bd d1 nx.2.1
    have nx2 := jNx_bd (t := t) rb.2.2.1
    rcases rest with ⟨_, _, k⟩ | ⟨k1o, hh2, rest⟩
    · omega
    · rcases rest with ⟨k5, k3', b3, o3, c3, d3, rest⟩ | ⟨_, k, _⟩ | ⟨_, _, _, k⟩
      · have rb3 := jR_bd d3 nx2.2.1
        rcases rest with ⟨_, _, k⟩ | ⟨_, _, k, _⟩ | ⟨_, _, _, k⟩
        · omega
        · exact absurd k (by decide)
        · omega
      · exact absurd k (by decide)
      · omega

