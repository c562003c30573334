theorem gL_law_L_pokeS : GoodIn wsL_law (va_wsS RL 68 yL_poke wsL_pokeS) := by
  have e : va_wsS RL 68 yL_poke wsL_pokeS = va_wsS RL 68 yL_poke wsL_poke ++ [.classLink RL 19 "java/lang/IllegalStateException"] := by
    unfold va_wsS wsL_pokeS
    rw [List.append_assoc]
  rw [e]
  exact goodIn_app gL_law_L_poke (goodIn_of _ (by decide +kernel))
