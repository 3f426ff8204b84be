/-! ===== the runs are the functions ===== -/
theorem zQ0_ : ¬ ((1 : Int) ≤ 0) := by decide
theorem zQ1_ : (1 : Int) ≤ 1 := by decide
theorem zQ2_ : ¬ ((0 : Int) ≤ (-1)) := by decide
set_option maxRecDepth 100000 in
theorem vn53_0 {S : Nat → zSpc}  {a : List Int} {g : rHp} : ∀ (ρ : Nat → Int) (γ : Nat → rHp), zO 2 S a g q53_0 ρ γ → zGl (fun _ _ _ => True) (sn53 a g) q53_0 ρ γ := by
  intro ρ γ h
  obtain ⟨ha, hg, hr, hf, hm, hc, hl⟩ := h
  have ha : a = [ρ 0, ρ 1] := ha
  subst ha
  subst hg
  obtain ⟨-, m1, m2, m3, m4, m5, m6, m7, m8, m9, m10, m11, m12, m13, m14, m15, m16, m17, m18, m19, m20, m21, m22, m23, m24, m25, m26, m27, m28, m29, m30, m31, m32, m33, m34, m35, m36, m37, m38, m39, m40, m41, m42, m43, m44, m45, m46, m47, m48, m49, m50, m51, m52, m53, m54, m55, m56, m57, m58, m59, m60, m61, m62, m63, m64, m65, m66, m67, m68, m69, m70, m71, m72, m73, m74, m75, m76, m77, m78, m79, m80, m81, m82, m83, m84, m85, m86, m87, m88, m89, m90, m91, m92, m93, m94, m95, m96, m97, m98, m99, m100, m101, m102, -⟩ := hm
  have m1 : γ 0 69 0 (ρ 0 + 1) = ρ 2 := m1
  have m2 : γ 0 71 0 (ρ 0 + 1) = ρ 3 := m2
  have m3 : γ 0 72 0 (ρ 0 + 1) = ρ 4 := m3
  have m4 : γ 0 73 0 (ρ 0 + 1) = ρ 5 := m4
  have m5 : γ 0 74 0 (ρ 0 + 1) = ρ 6 := m5
  have m6 : γ 0 75 0 (ρ 0 + 1) = ρ 7 := m6
  have m7 : γ 0 70 0 (4 * ρ 0 + 4) = ρ 8 := m7
  have m8 : γ 0 76 0 (4 * ρ 0 + 4) = ρ 9 := m8
  have m9 : γ 0 70 0 (4 * ρ 0 + 5) = ρ 10 := m9
  have m10 : γ 0 76 0 (4 * ρ 0 + 5) = ρ 11 := m10
  have m11 : γ 0 70 0 (4 * ρ 0 + 6) = ρ 12 := m11
  have m12 : γ 0 76 0 (4 * ρ 0 + 6) = ρ 13 := m12
  have m13 : γ 0 70 0 (4 * ρ 0 + 7) = ρ 14 := m13
  have m14 : γ 0 76 0 (4 * ρ 0 + 7) = ρ 15 := m14
  have m15 : γ 0 77 0 (8 * ρ 0 + 8) = ρ 16 := m15
  have m16 : γ 0 78 0 (8 * ρ 0 + 8) = ρ 17 := m16
  have m17 : γ 0 79 0 (8 * ρ 0 + 8) = ρ 18 := m17
  have m18 : γ 0 77 0 (8 * ρ 0 + 9) = ρ 19 := m18
  have m19 : γ 0 78 0 (8 * ρ 0 + 9) = ρ 20 := m19
  have m20 : γ 0 79 0 (8 * ρ 0 + 9) = ρ 21 := m20
  have m21 : γ 0 77 0 (8 * ρ 0 + 10) = ρ 22 := m21
  have m22 : γ 0 78 0 (8 * ρ 0 + 10) = ρ 23 := m22
  have m23 : γ 0 79 0 (8 * ρ 0 + 10) = ρ 24 := m23
  have m24 : γ 0 77 0 (8 * ρ 0 + 11) = ρ 25 := m24
  have m25 : γ 0 78 0 (8 * ρ 0 + 11) = ρ 26 := m25
  have m26 : γ 0 79 0 (8 * ρ 0 + 11) = ρ 27 := m26
  have m27 : γ 0 77 0 (8 * ρ 0 + 12) = ρ 28 := m27
  have m28 : γ 0 78 0 (8 * ρ 0 + 12) = ρ 29 := m28
  have m29 : γ 0 79 0 (8 * ρ 0 + 12) = ρ 30 := m29
  have m30 : γ 0 77 0 (8 * ρ 0 + 13) = ρ 31 := m30
  have m31 : γ 0 78 0 (8 * ρ 0 + 13) = ρ 32 := m31
  have m32 : γ 0 79 0 (8 * ρ 0 + 13) = ρ 33 := m32
  have m33 : γ 0 77 0 (8 * ρ 0 + 14) = ρ 34 := m33
  have m34 : γ 0 78 0 (8 * ρ 0 + 14) = ρ 35 := m34
  have m35 : γ 0 79 0 (8 * ρ 0 + 14) = ρ 36 := m35
  have m36 : γ 0 77 0 (8 * ρ 0 + 15) = ρ 37 := m36
  have m37 : γ 0 78 0 (8 * ρ 0 + 15) = ρ 38 := m37
  have m38 : γ 0 79 0 (8 * ρ 0 + 15) = ρ 39 := m38
  have m39 : γ 0 80 0 (32 * ρ 0 + 32) = ρ 40 := m39
  have m40 : γ 0 81 0 (32 * ρ 0 + 32) = ρ 41 := m40
  have m41 : γ 0 80 0 (32 * ρ 0 + 33) = ρ 42 := m41
  have m42 : γ 0 81 0 (32 * ρ 0 + 33) = ρ 43 := m42
  have m43 : γ 0 80 0 (32 * ρ 0 + 34) = ρ 44 := m43
  have m44 : γ 0 81 0 (32 * ρ 0 + 34) = ρ 45 := m44
  have m45 : γ 0 80 0 (32 * ρ 0 + 35) = ρ 46 := m45
  have m46 : γ 0 81 0 (32 * ρ 0 + 35) = ρ 47 := m46
  have m47 : γ 0 80 0 (32 * ρ 0 + 36) = ρ 48 := m47
  have m48 : γ 0 81 0 (32 * ρ 0 + 36) = ρ 49 := m48
  have m49 : γ 0 80 0 (32 * ρ 0 + 37) = ρ 50 := m49
  have m50 : γ 0 81 0 (32 * ρ 0 + 37) = ρ 51 := m50
  have m51 : γ 0 80 0 (32 * ρ 0 + 38) = ρ 52 := m51
  have m52 : γ 0 81 0 (32 * ρ 0 + 38) = ρ 53 := m52
  have m53 : γ 0 80 0 (32 * ρ 0 + 39) = ρ 54 := m53
  have m54 : γ 0 81 0 (32 * ρ 0 + 39) = ρ 55 := m54
  have m55 : γ 0 80 0 (32 * ρ 0 + 40) = ρ 56 := m55
  have m56 : γ 0 81 0 (32 * ρ 0 + 40) = ρ 57 := m56
  have m57 : γ 0 80 0 (32 * ρ 0 + 41) = ρ 58 := m57
  have m58 : γ 0 81 0 (32 * ρ 0 + 41) = ρ 59 := m58
  have m59 : γ 0 80 0 (32 * ρ 0 + 42) = ρ 60 := m59
  have m60 : γ 0 81 0 (32 * ρ 0 + 42) = ρ 61 := m60
  have m61 : γ 0 80 0 (32 * ρ 0 + 43) = ρ 62 := m61
  have m62 : γ 0 81 0 (32 * ρ 0 + 43) = ρ 63 := m62
  have m63 : γ 0 80 0 (32 * ρ 0 + 44) = ρ 64 := m63
  have m64 : γ 0 81 0 (32 * ρ 0 + 44) = ρ 65 := m64
  have m65 : γ 0 80 0 (32 * ρ 0 + 45) = ρ 66 := m65
  have m66 : γ 0 81 0 (32 * ρ 0 + 45) = ρ 67 := m66
  have m67 : γ 0 80 0 (32 * ρ 0 + 46) = ρ 68 := m67
  have m68 : γ 0 81 0 (32 * ρ 0 + 46) = ρ 69 := m68
  have m69 : γ 0 80 0 (32 * ρ 0 + 47) = ρ 70 := m69
  have m70 : γ 0 81 0 (32 * ρ 0 + 47) = ρ 71 := m70
  have m71 : γ 0 80 0 (32 * ρ 0 + 48) = ρ 72 := m71
  have m72 : γ 0 81 0 (32 * ρ 0 + 48) = ρ 73 := m72
  have m73 : γ 0 80 0 (32 * ρ 0 + 49) = ρ 74 := m73
  have m74 : γ 0 81 0 (32 * ρ 0 + 49) = ρ 75 := m74
  have m75 : γ 0 80 0 (32 * ρ 0 + 50) = ρ 76 := m75
  have m76 : γ 0 81 0 (32 * ρ 0 + 50) = ρ 77 := m76
  have m77 : γ 0 80 0 (32 * ρ 0 + 51) = ρ 78 := m77
  have m78 : γ 0 81 0 (32 * ρ 0 + 51) = ρ 79 := m78
  have m79 : γ 0 80 0 (32 * ρ 0 + 52) = ρ 80 := m79
  have m80 : γ 0 81 0 (32 * ρ 0 + 52) = ρ 81 := m80
  have m81 : γ 0 80 0 (32 * ρ 0 + 53) = ρ 82 := m81
  have m82 : γ 0 81 0 (32 * ρ 0 + 53) = ρ 83 := m82
  have m83 : γ 0 80 0 (32 * ρ 0 + 54) = ρ 84 := m83
  have m84 : γ 0 81 0 (32 * ρ 0 + 54) = ρ 85 := m84
  have m85 : γ 0 80 0 (32 * ρ 0 + 55) = ρ 86 := m85
  have m86 : γ 0 81 0 (32 * ρ 0 + 55) = ρ 87 := m86
  have m87 : γ 0 80 0 (32 * ρ 0 + 56) = ρ 88 := m87
  have m88 : γ 0 81 0 (32 * ρ 0 + 56) = ρ 89 := m88
  have m89 : γ 0 80 0 (32 * ρ 0 + 57) = ρ 90 := m89
  have m90 : γ 0 81 0 (32 * ρ 0 + 57) = ρ 91 := m90
  have m91 : γ 0 80 0 (32 * ρ 0 + 58) = ρ 92 := m91
  have m92 : γ 0 81 0 (32 * ρ 0 + 58) = ρ 93 := m92
  have m93 : γ 0 80 0 (32 * ρ 0 + 59) = ρ 94 := m93
  have m94 : γ 0 81 0 (32 * ρ 0 + 59) = ρ 95 := m94
  have m95 : γ 0 80 0 (32 * ρ 0 + 60) = ρ 96 := m95
  have m96 : γ 0 81 0 (32 * ρ 0 + 60) = ρ 97 := m96
  have m97 : γ 0 80 0 (32 * ρ 0 + 61) = ρ 98 := m97
  have m98 : γ 0 81 0 (32 * ρ 0 + 61) = ρ 99 := m98
  have m99 : γ 0 80 0 (32 * ρ 0 + 62) = ρ 100 := m99
  have m100 : γ 0 81 0 (32 * ρ 0 + 62) = ρ 101 := m100
  have m101 : γ 0 80 0 (32 * ρ 0 + 63) = ρ 102 := m101
  have m102 : γ 0 81 0 (32 * ρ 0 + 63) = ρ 103 := m102
  obtain ⟨⟨⟨⟨⟨⟨⟨⟨⟨⟨⟨⟨⟨⟨⟨⟨⟨⟨⟨⟨⟨⟨⟨⟨⟨⟨⟨⟨⟨⟨⟨⟨⟨⟨⟨⟨⟨⟨⟨⟨⟨⟨⟨⟨⟨⟨⟨⟨⟨⟨⟨⟨⟨⟨⟨⟨⟨⟨⟨⟨⟨⟨⟨⟨⟨⟨⟨⟨⟨⟨⟨⟨⟨⟨⟨⟨⟨⟨⟨⟨⟨⟨⟨⟨⟨⟨⟨⟨⟨⟨⟨⟨⟨⟨⟨⟨⟨⟨⟨⟨⟨⟨-, c1⟩, c2⟩, c3⟩, c4⟩, c5⟩, c6⟩, c7⟩, c8⟩, c9⟩, c10⟩, c11⟩, c12⟩, c13⟩, c14⟩, c15⟩, c16⟩, c17⟩, c18⟩, c19⟩, c20⟩, c21⟩, c22⟩, c23⟩, c24⟩, c25⟩, c26⟩, c27⟩, c28⟩, c29⟩, c30⟩, c31⟩, c32⟩, c33⟩, c34⟩, c35⟩, c36⟩, c37⟩, c38⟩, c39⟩, c40⟩, c41⟩, c42⟩, c43⟩, c44⟩, c45⟩, c46⟩, c47⟩, c48⟩, c49⟩, c50⟩, c51⟩, c52⟩, c53⟩, c54⟩, c55⟩, c56⟩, c57⟩, c58⟩, c59⟩, c60⟩, c61⟩, c62⟩, c63⟩, c64⟩, c65⟩, c66⟩, c67⟩, c68⟩, c69⟩, c70⟩, c71⟩, c72⟩, c73⟩, c74⟩, c75⟩, c76⟩, c77⟩, c78⟩, c79⟩, c80⟩, c81⟩, c82⟩, c83⟩, c84⟩, c85⟩, c86⟩, c87⟩, c88⟩, c89⟩, c90⟩, c91⟩, c92⟩, c93⟩, c94⟩, c95⟩, c96⟩, c97⟩, c98⟩, c99⟩, c100⟩, c101⟩, c102⟩ := hc
  have c1 : γ 1 = rUp (γ 0) 69 0 (ρ 0) (ρ 2) := c1
  have c2 : γ 2 = rUp (γ 1) 71 0 (ρ 0) (ρ 3) := c2
  have c3 : γ 3 = rUp (γ 2) 72 0 (ρ 0) (ρ 4) := c3
  have c4 : γ 4 = rUp (γ 3) 73 0 (ρ 0) (ρ 5) := c4
  have c5 : γ 5 = rUp (γ 4) 74 0 (ρ 0) (ρ 6) := c5
  have c6 : γ 6 = rUp (γ 5) 75 0 (ρ 0) (ρ 7) := c6
  have c7 : γ 7 = rUp (γ 6) 70 0 (4 * ρ 0) (ρ 8) := c7
  have c8 : γ 8 = rUp (γ 7) 76 0 (4 * ρ 0) (ρ 9) := c8
  have c9 : γ 9 = rUp (γ 8) 70 0 (4 * ρ 0 + 1) (ρ 10) := c9
  have c10 : γ 10 = rUp (γ 9) 76 0 (4 * ρ 0 + 1) (ρ 11) := c10
  have c11 : γ 11 = rUp (γ 10) 70 0 (4 * ρ 0 + 2) (ρ 12) := c11
  have c12 : γ 12 = rUp (γ 11) 76 0 (4 * ρ 0 + 2) (ρ 13) := c12
  have c13 : γ 13 = rUp (γ 12) 70 0 (4 * ρ 0 + 3) (ρ 14) := c13
  have c14 : γ 14 = rUp (γ 13) 76 0 (4 * ρ 0 + 3) (ρ 15) := c14
  have c15 : γ 15 = rUp (γ 14) 77 0 (8 * ρ 0) (ρ 16) := c15
  have c16 : γ 16 = rUp (γ 15) 78 0 (8 * ρ 0) (ρ 17) := c16
  have c17 : γ 17 = rUp (γ 16) 79 0 (8 * ρ 0) (ρ 18) := c17
  have c18 : γ 18 = rUp (γ 17) 77 0 (8 * ρ 0 + 1) (ρ 19) := c18
  have c19 : γ 19 = rUp (γ 18) 78 0 (8 * ρ 0 + 1) (ρ 20) := c19
  have c20 : γ 20 = rUp (γ 19) 79 0 (8 * ρ 0 + 1) (ρ 21) := c20
  have c21 : γ 21 = rUp (γ 20) 77 0 (8 * ρ 0 + 2) (ρ 22) := c21
  have c22 : γ 22 = rUp (γ 21) 78 0 (8 * ρ 0 + 2) (ρ 23) := c22
  have c23 : γ 23 = rUp (γ 22) 79 0 (8 * ρ 0 + 2) (ρ 24) := c23
  have c24 : γ 24 = rUp (γ 23) 77 0 (8 * ρ 0 + 3) (ρ 25) := c24
  have c25 : γ 25 = rUp (γ 24) 78 0 (8 * ρ 0 + 3) (ρ 26) := c25
  have c26 : γ 26 = rUp (γ 25) 79 0 (8 * ρ 0 + 3) (ρ 27) := c26
  have c27 : γ 27 = rUp (γ 26) 77 0 (8 * ρ 0 + 4) (ρ 28) := c27
  have c28 : γ 28 = rUp (γ 27) 78 0 (8 * ρ 0 + 4) (ρ 29) := c28
  have c29 : γ 29 = rUp (γ 28) 79 0 (8 * ρ 0 + 4) (ρ 30) := c29
  have c30 : γ 30 = rUp (γ 29) 77 0 (8 * ρ 0 + 5) (ρ 31) := c30
  have c31 : γ 31 = rUp (γ 30) 78 0 (8 * ρ 0 + 5) (ρ 32) := c31
  have c32 : γ 32 = rUp (γ 31) 79 0 (8 * ρ 0 + 5) (ρ 33) := c32
  have c33 : γ 33 = rUp (γ 32) 77 0 (8 * ρ 0 + 6) (ρ 34) := c33
  have c34 : γ 34 = rUp (γ 33) 78 0 (8 * ρ 0 + 6) (ρ 35) := c34
  have c35 : γ 35 = rUp (γ 34) 79 0 (8 * ρ 0 + 6) (ρ 36) := c35
  have c36 : γ 36 = rUp (γ 35) 77 0 (8 * ρ 0 + 7) (ρ 37) := c36
  have c37 : γ 37 = rUp (γ 36) 78 0 (8 * ρ 0 + 7) (ρ 38) := c37
  have c38 : γ 38 = rUp (γ 37) 79 0 (8 * ρ 0 + 7) (ρ 39) := c38
  have c39 : γ 39 = rUp (γ 38) 80 0 (32 * ρ 0) (ρ 40) := c39
  have c40 : γ 40 = rUp (γ 39) 81 0 (32 * ρ 0) (ρ 41) := c40
  have c41 : γ 41 = rUp (γ 40) 80 0 (32 * ρ 0 + 1) (ρ 42) := c41
  have c42 : γ 42 = rUp (γ 41) 81 0 (32 * ρ 0 + 1) (ρ 43) := c42
  have c43 : γ 43 = rUp (γ 42) 80 0 (32 * ρ 0 + 2) (ρ 44) := c43
  have c44 : γ 44 = rUp (γ 43) 81 0 (32 * ρ 0 + 2) (ρ 45) := c44
  have c45 : γ 45 = rUp (γ 44) 80 0 (32 * ρ 0 + 3) (ρ 46) := c45
  have c46 : γ 46 = rUp (γ 45) 81 0 (32 * ρ 0 + 3) (ρ 47) := c46
  have c47 : γ 47 = rUp (γ 46) 80 0 (32 * ρ 0 + 4) (ρ 48) := c47
  have c48 : γ 48 = rUp (γ 47) 81 0 (32 * ρ 0 + 4) (ρ 49) := c48
  have c49 : γ 49 = rUp (γ 48) 80 0 (32 * ρ 0 + 5) (ρ 50) := c49
  have c50 : γ 50 = rUp (γ 49) 81 0 (32 * ρ 0 + 5) (ρ 51) := c50
  have c51 : γ 51 = rUp (γ 50) 80 0 (32 * ρ 0 + 6) (ρ 52) := c51
  have c52 : γ 52 = rUp (γ 51) 81 0 (32 * ρ 0 + 6) (ρ 53) := c52
  have c53 : γ 53 = rUp (γ 52) 80 0 (32 * ρ 0 + 7) (ρ 54) := c53
  have c54 : γ 54 = rUp (γ 53) 81 0 (32 * ρ 0 + 7) (ρ 55) := c54
  have c55 : γ 55 = rUp (γ 54) 80 0 (32 * ρ 0 + 8) (ρ 56) := c55
  have c56 : γ 56 = rUp (γ 55) 81 0 (32 * ρ 0 + 8) (ρ 57) := c56
  have c57 : γ 57 = rUp (γ 56) 80 0 (32 * ρ 0 + 9) (ρ 58) := c57
  have c58 : γ 58 = rUp (γ 57) 81 0 (32 * ρ 0 + 9) (ρ 59) := c58
  have c59 : γ 59 = rUp (γ 58) 80 0 (32 * ρ 0 + 10) (ρ 60) := c59
  have c60 : γ 60 = rUp (γ 59) 81 0 (32 * ρ 0 + 10) (ρ 61) := c60
  have c61 : γ 61 = rUp (γ 60) 80 0 (32 * ρ 0 + 11) (ρ 62) := c61
  have c62 : γ 62 = rUp (γ 61) 81 0 (32 * ρ 0 + 11) (ρ 63) := c62
  have c63 : γ 63 = rUp (γ 62) 80 0 (32 * ρ 0 + 12) (ρ 64) := c63
  have c64 : γ 64 = rUp (γ 63) 81 0 (32 * ρ 0 + 12) (ρ 65) := c64
  have c65 : γ 65 = rUp (γ 64) 80 0 (32 * ρ 0 + 13) (ρ 66) := c65
  have c66 : γ 66 = rUp (γ 65) 81 0 (32 * ρ 0 + 13) (ρ 67) := c66
  have c67 : γ 67 = rUp (γ 66) 80 0 (32 * ρ 0 + 14) (ρ 68) := c67
  have c68 : γ 68 = rUp (γ 67) 81 0 (32 * ρ 0 + 14) (ρ 69) := c68
  have c69 : γ 69 = rUp (γ 68) 80 0 (32 * ρ 0 + 15) (ρ 70) := c69
  have c70 : γ 70 = rUp (γ 69) 81 0 (32 * ρ 0 + 15) (ρ 71) := c70
  have c71 : γ 71 = rUp (γ 70) 80 0 (32 * ρ 0 + 16) (ρ 72) := c71
  have c72 : γ 72 = rUp (γ 71) 81 0 (32 * ρ 0 + 16) (ρ 73) := c72
  have c73 : γ 73 = rUp (γ 72) 80 0 (32 * ρ 0 + 17) (ρ 74) := c73
  have c74 : γ 74 = rUp (γ 73) 81 0 (32 * ρ 0 + 17) (ρ 75) := c74
  have c75 : γ 75 = rUp (γ 74) 80 0 (32 * ρ 0 + 18) (ρ 76) := c75
  have c76 : γ 76 = rUp (γ 75) 81 0 (32 * ρ 0 + 18) (ρ 77) := c76
  have c77 : γ 77 = rUp (γ 76) 80 0 (32 * ρ 0 + 19) (ρ 78) := c77
  have c78 : γ 78 = rUp (γ 77) 81 0 (32 * ρ 0 + 19) (ρ 79) := c78
  have c79 : γ 79 = rUp (γ 78) 80 0 (32 * ρ 0 + 20) (ρ 80) := c79
  have c80 : γ 80 = rUp (γ 79) 81 0 (32 * ρ 0 + 20) (ρ 81) := c80
  have c81 : γ 81 = rUp (γ 80) 80 0 (32 * ρ 0 + 21) (ρ 82) := c81
  have c82 : γ 82 = rUp (γ 81) 81 0 (32 * ρ 0 + 21) (ρ 83) := c82
  have c83 : γ 83 = rUp (γ 82) 80 0 (32 * ρ 0 + 22) (ρ 84) := c83
  have c84 : γ 84 = rUp (γ 83) 81 0 (32 * ρ 0 + 22) (ρ 85) := c84
  have c85 : γ 85 = rUp (γ 84) 80 0 (32 * ρ 0 + 23) (ρ 86) := c85
  have c86 : γ 86 = rUp (γ 85) 81 0 (32 * ρ 0 + 23) (ρ 87) := c86
  have c87 : γ 87 = rUp (γ 86) 80 0 (32 * ρ 0 + 24) (ρ 88) := c87
  have c88 : γ 88 = rUp (γ 87) 81 0 (32 * ρ 0 + 24) (ρ 89) := c88
  have c89 : γ 89 = rUp (γ 88) 80 0 (32 * ρ 0 + 25) (ρ 90) := c89
  have c90 : γ 90 = rUp (γ 89) 81 0 (32 * ρ 0 + 25) (ρ 91) := c90
  have c91 : γ 91 = rUp (γ 90) 80 0 (32 * ρ 0 + 26) (ρ 92) := c91
  have c92 : γ 92 = rUp (γ 91) 81 0 (32 * ρ 0 + 26) (ρ 93) := c92
  have c93 : γ 93 = rUp (γ 92) 80 0 (32 * ρ 0 + 27) (ρ 94) := c93
  have c94 : γ 94 = rUp (γ 93) 81 0 (32 * ρ 0 + 27) (ρ 95) := c94
  have c95 : γ 95 = rUp (γ 94) 80 0 (32 * ρ 0 + 28) (ρ 96) := c95
  have c96 : γ 96 = rUp (γ 95) 81 0 (32 * ρ 0 + 28) (ρ 97) := c96
  have c97 : γ 97 = rUp (γ 96) 80 0 (32 * ρ 0 + 29) (ρ 98) := c97
  have c98 : γ 98 = rUp (γ 97) 81 0 (32 * ρ 0 + 29) (ρ 99) := c98
  have c99 : γ 99 = rUp (γ 98) 80 0 (32 * ρ 0 + 30) (ρ 100) := c99
  have c100 : γ 100 = rUp (γ 99) 81 0 (32 * ρ 0 + 30) (ρ 101) := c100
  have c101 : γ 101 = rUp (γ 100) 80 0 (32 * ρ 0 + 31) (ρ 102) := c101
  have c102 : γ 102 = rUp (γ 101) 81 0 (32 * ρ 0 + 31) (ρ 103) := c102
  show sn53 [ρ 0, ρ 1] (γ 0) 0 0 (γ 102)
  refine Eq.symm ?_
  show fn53 [ρ 0] (γ 0) = _
  unfold fn53
  refine (zLet_eq (show _ = ρ 0 from rfl)).trans ?_
  refine (zLet_eq m1).trans ?_
  refine (zLet_eq c1.symm).trans ?_
  refine (zLet_eq m2).trans ?_
  refine (zLet_eq c2.symm).trans ?_
  refine (zLet_eq m3).trans ?_
  refine (zLet_eq c3.symm).trans ?_
  refine (zLet_eq m4).trans ?_
  refine (zLet_eq c4.symm).trans ?_
  refine (zLet_eq m5).trans ?_
  refine (zLet_eq c5.symm).trans ?_
  refine (zLet_eq m6).trans ?_
  refine (zLet_eq c6.symm).trans ?_
  refine (zLet_eq m7).trans ?_
  refine (zLet_eq c7.symm).trans ?_
  refine (zLet_eq m8).trans ?_
  refine (zLet_eq c8.symm).trans ?_
  refine (zLet_eq m9).trans ?_
  refine (zLet_eq c9.symm).trans ?_
  refine (zLet_eq m10).trans ?_
  refine (zLet_eq c10.symm).trans ?_
  refine (zLet_eq m11).trans ?_
  refine (zLet_eq c11.symm).trans ?_
  refine (zLet_eq m12).trans ?_
  refine (zLet_eq c12.symm).trans ?_
  refine (zLet_eq m13).trans ?_
  refine (zLet_eq c13.symm).trans ?_
  refine (zLet_eq m14).trans ?_
  refine (zLet_eq c14.symm).trans ?_
  refine (zLet_eq m15).trans ?_
  refine (zLet_eq c15.symm).trans ?_
  refine (zLet_eq m16).trans ?_
  refine (zLet_eq c16.symm).trans ?_
  refine (zLet_eq m17).trans ?_
  refine (zLet_eq c17.symm).trans ?_
  refine (zLet_eq m18).trans ?_
  refine (zLet_eq c18.symm).trans ?_
  refine (zLet_eq m19).trans ?_
  refine (zLet_eq c19.symm).trans ?_
  refine (zLet_eq m20).trans ?_
  refine (zLet_eq c20.symm).trans ?_
  refine (zLet_eq m21).trans ?_
  refine (zLet_eq c21.symm).trans ?_
  refine (zLet_eq m22).trans ?_
  refine (zLet_eq c22.symm).trans ?_
  refine (zLet_eq m23).trans ?_
  refine (zLet_eq c23.symm).trans ?_
  refine (zLet_eq m24).trans ?_
  refine (zLet_eq c24.symm).trans ?_
  refine (zLet_eq m25).trans ?_
  refine (zLet_eq c25.symm).trans ?_
  refine (zLet_eq m26).trans ?_
  refine (zLet_eq c26.symm).trans ?_
  refine (zLet_eq m27).trans ?_
  refine (zLet_eq c27.symm).trans ?_
  refine (zLet_eq m28).trans ?_
  refine (zLet_eq c28.symm).trans ?_
  refine (zLet_eq m29).trans ?_
  refine (zLet_eq c29.symm).trans ?_
  refine (zLet_eq m30).trans ?_
  refine (zLet_eq c30.symm).trans ?_
  refine (zLet_eq m31).trans ?_
  refine (zLet_eq c31.symm).trans ?_
  refine (zLet_eq m32).trans ?_
  refine (zLet_eq c32.symm).trans ?_
  refine (zLet_eq m33).trans ?_
  refine (zLet_eq c33.symm).trans ?_
  refine (zLet_eq m34).trans ?_
  refine (zLet_eq c34.symm).trans ?_
  refine (zLet_eq m35).trans ?_
  refine (zLet_eq c35.symm).trans ?_
  refine (zLet_eq m36).trans ?_
  refine (zLet_eq c36.symm).trans ?_
  refine (zLet_eq m37).trans ?_
  refine (zLet_eq c37.symm).trans ?_
  refine (zLet_eq m38).trans ?_
  refine (zLet_eq c38.symm).trans ?_
  refine (zLet_eq m39).trans ?_
  refine (zLet_eq c39.symm).trans ?_
  refine (zLet_eq m40).trans ?_
  refine (zLet_eq c40.symm).trans ?_
  refine (zLet_eq m41).trans ?_
  refine (zLet_eq c41.symm).trans ?_
  refine (zLet_eq m42).trans ?_
  refine (zLet_eq c42.symm).trans ?_
  refine (zLet_eq m43).trans ?_
  refine (zLet_eq c43.symm).trans ?_
  refine (zLet_eq m44).trans ?_
  refine (zLet_eq c44.symm).trans ?_
  refine (zLet_eq m45).trans ?_
  refine (zLet_eq c45.symm).trans ?_
  refine (zLet_eq m46).trans ?_
  refine (zLet_eq c46.symm).trans ?_
  refine (zLet_eq m47).trans ?_
  refine (zLet_eq c47.symm).trans ?_
  refine (zLet_eq m48).trans ?_
  refine (zLet_eq c48.symm).trans ?_
  refine (zLet_eq m49).trans ?_
  refine (zLet_eq c49.symm).trans ?_
  refine (zLet_eq m50).trans ?_
  refine (zLet_eq c50.symm).trans ?_
  refine (zLet_eq m51).trans ?_
  refine (zLet_eq c51.symm).trans ?_
  refine (zLet_eq m52).trans ?_
  refine (zLet_eq c52.symm).trans ?_
  refine (zLet_eq m53).trans ?_
  refine (zLet_eq c53.symm).trans ?_
  refine (zLet_eq m54).trans ?_
  refine (zLet_eq c54.symm).trans ?_
  refine (zLet_eq m55).trans ?_
  refine (zLet_eq c55.symm).trans ?_
  refine (zLet_eq m56).trans ?_
  refine (zLet_eq c56.symm).trans ?_
  refine (zLet_eq m57).trans ?_
  refine (zLet_eq c57.symm).trans ?_
  refine (zLet_eq m58).trans ?_
  refine (zLet_eq c58.symm).trans ?_
  refine (zLet_eq m59).trans ?_
  refine (zLet_eq c59.symm).trans ?_
  refine (zLet_eq m60).trans ?_
  refine (zLet_eq c60.symm).trans ?_
  refine (zLet_eq m61).trans ?_
  refine (zLet_eq c61.symm).trans ?_
  refine (zLet_eq m62).trans ?_
  refine (zLet_eq c62.symm).trans ?_
  refine (zLet_eq m63).trans ?_
  refine (zLet_eq c63.symm).trans ?_
  refine (zLet_eq m64).trans ?_
  refine (zLet_eq c64.symm).trans ?_
  refine (zLet_eq m65).trans ?_
  refine (zLet_eq c65.symm).trans ?_
  refine (zLet_eq m66).trans ?_
  refine (zLet_eq c66.symm).trans ?_
  refine (zLet_eq m67).trans ?_
  refine (zLet_eq c67.symm).trans ?_
  refine (zLet_eq m68).trans ?_
  refine (zLet_eq c68.symm).trans ?_
  refine (zLet_eq m69).trans ?_
  refine (zLet_eq c69.symm).trans ?_
  refine (zLet_eq m70).trans ?_
  refine (zLet_eq c70.symm).trans ?_
  refine (zLet_eq m71).trans ?_
  refine (zLet_eq c71.symm).trans ?_
  refine (zLet_eq m72).trans ?_
  refine (zLet_eq c72.symm).trans ?_
  refine (zLet_eq m73).trans ?_
  refine (zLet_eq c73.symm).trans ?_
  refine (zLet_eq m74).trans ?_
  refine (zLet_eq c74.symm).trans ?_
  refine (zLet_eq m75).trans ?_
  refine (zLet_eq c75.symm).trans ?_
  refine (zLet_eq m76).trans ?_
  refine (zLet_eq c76.symm).trans ?_
  refine (zLet_eq m77).trans ?_
  refine (zLet_eq c77.symm).trans ?_
  refine (zLet_eq m78).trans ?_
  refine (zLet_eq c78.symm).trans ?_
  refine (zLet_eq m79).trans ?_
  refine (zLet_eq c79.symm).trans ?_
  refine (zLet_eq m80).trans ?_
  refine (zLet_eq c80.symm).trans ?_
  refine (zLet_eq m81).trans ?_
  refine (zLet_eq c81.symm).trans ?_
  refine (zLet_eq m82).trans ?_
  refine (zLet_eq c82.symm).trans ?_
  refine (zLet_eq m83).trans ?_
  refine (zLet_eq c83.symm).trans ?_
  refine (zLet_eq m84).trans ?_
  refine (zLet_eq c84.symm).trans ?_
  refine (zLet_eq m85).trans ?_
  refine (zLet_eq c85.symm).trans ?_
  refine (zLet_eq m86).trans ?_
  refine (zLet_eq c86.symm).trans ?_
  refine (zLet_eq m87).trans ?_
  refine (zLet_eq c87.symm).trans ?_
  refine (zLet_eq m88).trans ?_
  refine (zLet_eq c88.symm).trans ?_
  refine (zLet_eq m89).trans ?_
  refine (zLet_eq c89.symm).trans ?_
  refine (zLet_eq m90).trans ?_
  refine (zLet_eq c90.symm).trans ?_
  refine (zLet_eq m91).trans ?_
  refine (zLet_eq c91.symm).trans ?_
  refine (zLet_eq m92).trans ?_
  refine (zLet_eq c92.symm).trans ?_
  refine (zLet_eq m93).trans ?_
  refine (zLet_eq c93.symm).trans ?_
  refine (zLet_eq m94).trans ?_
  refine (zLet_eq c94.symm).trans ?_
  refine (zLet_eq m95).trans ?_
  refine (zLet_eq c95.symm).trans ?_
  refine (zLet_eq m96).trans ?_
  refine (zLet_eq c96.symm).trans ?_
  refine (zLet_eq m97).trans ?_
  refine (zLet_eq c97.symm).trans ?_
  refine (zLet_eq m98).trans ?_
  refine (zLet_eq c98.symm).trans ?_
  refine (zLet_eq m99).trans ?_
  refine (zLet_eq c99.symm).trans ?_
  refine (zLet_eq m100).trans ?_
  refine (zLet_eq c100.symm).trans ?_
  refine (zLet_eq m101).trans ?_
  refine (zLet_eq c101.symm).trans ?_
  refine (zLet_eq m102).trans ?_
  refine (zLet_eq c102.symm).trans ?_
  rfl
set_option maxRecDepth 100000 in
theorem yn53 {S : Nat → zSpc}  : ∀ x g o v gz, zSem uW uT w53_.2.2.2.1 w53_.2.2.1.1.length S q53 (fun i => q53a.getD i []) (zNA a53_) x g o v gz → sn53 x g o v gz := by
  intro a g o v gz h
  exact zSem_all (l0 := q53) (las := q53a) (S := S) (J := (fun _ _ _ => True)) (P := sn53 a g) (fun _ => (show zAll _ [q53_0] from (zAll_c (vn53_0 ) zAll_n))) (fun _ => (show zAllI _ 0 [] from trivial)) h
