theorem wsL_good : wsL_law.all goodWord = true := by decide +kernel
