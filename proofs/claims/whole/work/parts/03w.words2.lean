theorem w_1766 : Cond.code ⟨"DearLettersModel", "isAllowed", "(I)Z"⟩ prog_14_method_17_code 2 (Option.some FieldType.boolean) ∈ z_tbl := z_tbl_in (List.mem_of_getElem? (i := 1766) (by decide +kernel)) rfl
theorem w_1767 : Cond.methodLink "DearLettersModel" 612 ⟨"DearLettersModel", "qOpens", "(II)V"⟩ ∈ z_tbl := z_tbl_in (List.mem_of_getElem? (i := 1767) (by decide +kernel)) rfl
theorem w_1769 : Cond.instanceMethod ⟨"DearLettersModel", "qOpens", "(II)V"⟩ ∈ z_tbl := z_tbl_in (List.mem_of_getElem? (i := 1769) (by decide +kernel)) rfl
theorem w_1770 : Cond.code ⟨"DearLettersModel", "qOpens", "(II)V"⟩ prog_14_method_106_code 3 none ∈ z_tbl := z_tbl_in (List.mem_of_getElem? (i := 1770) (by decide +kernel)) rfl
theorem w_1771 : Cond.methodLink "DearLettersModel" 395 ⟨"DearLettersModel", "asksSign", "(I)V"⟩ ∈ z_tbl := z_tbl_in (List.mem_of_getElem? (i := 1771) (by decide +kernel)) rfl
theorem w_1773 : Cond.instanceMethod ⟨"DearLettersModel", "asksSign", "(I)V"⟩ ∈ z_tbl := z_tbl_in (List.mem_of_getElem? (i := 1773) (by decide +kernel)) rfl
theorem w_1774 : Cond.code ⟨"DearLettersModel", "asksSign", "(I)V"⟩ prog_14_method_13_code 2 none ∈ z_tbl := z_tbl_in (List.mem_of_getElem? (i := 1774) (by decide +kernel)) rfl
theorem w_1775 : Cond.methodLink "DearLettersModel" 297 ⟨"DearLettersModel", "takesSign", "(I)Z"⟩ ∈ z_tbl := z_tbl_in (List.mem_of_getElem? (i := 1775) (by decide +kernel)) rfl
theorem w_1777 : Cond.instanceMethod ⟨"DearLettersModel", "takesSign", "(I)Z"⟩ ∈ z_tbl := z_tbl_in (List.mem_of_getElem? (i := 1777) (by decide +kernel)) rfl
theorem w_1778 : Cond.code ⟨"DearLettersModel", "takesSign", "(I)Z"⟩ prog_14_method_12_code 2 (Option.some FieldType.boolean) ∈ z_tbl := z_tbl_in (List.mem_of_getElem? (i := 1778) (by decide +kernel)) rfl
theorem w_1779 : Cond.methodLink "DearLettersModel" 615 ⟨"DearLettersModel", "qAsksWord", "(I)V"⟩ ∈ z_tbl := z_tbl_in (List.mem_of_getElem? (i := 1779) (by decide +kernel)) rfl
theorem w_1781 : Cond.instanceMethod ⟨"DearLettersModel", "qAsksWord", "(I)V"⟩ ∈ z_tbl := z_tbl_in (List.mem_of_getElem? (i := 1781) (by decide +kernel)) rfl
theorem w_1782 : Cond.code ⟨"DearLettersModel", "qAsksWord", "(I)V"⟩ prog_14_method_114_code 2 none ∈ z_tbl := z_tbl_in (List.mem_of_getElem? (i := 1782) (by decide +kernel)) rfl
theorem w_1783 : Cond.methodLink "DearLettersModel" 594 ⟨"DearLettersModel", "qCode", "(I)V"⟩ ∈ z_tbl := z_tbl_in (List.mem_of_getElem? (i := 1783) (by decide +kernel)) rfl
theorem w_1785 : Cond.instanceMethod ⟨"DearLettersModel", "qCode", "(I)V"⟩ ∈ z_tbl := z_tbl_in (List.mem_of_getElem? (i := 1785) (by decide +kernel)) rfl
theorem w_1786 : Cond.code ⟨"DearLettersModel", "qCode", "(I)V"⟩ prog_14_method_105_code 2 none ∈ z_tbl := z_tbl_in (List.mem_of_getElem? (i := 1786) (by decide +kernel)) rfl
theorem w_1787 : Cond.methodLink "DearLettersModel" 618 ⟨"DearLettersModel", "qEndsPart", "()V"⟩ ∈ z_tbl := z_tbl_in (List.mem_of_getElem? (i := 1787) (by decide +kernel)) rfl
theorem w_1789 : Cond.instanceMethod ⟨"DearLettersModel", "qEndsPart", "()V"⟩ ∈ z_tbl := z_tbl_in (List.mem_of_getElem? (i := 1789) (by decide +kernel)) rfl
theorem w_1790 : Cond.code ⟨"DearLettersModel", "qEndsPart", "()V"⟩ prog_14_method_115_code 1 none ∈ z_tbl := z_tbl_in (List.mem_of_getElem? (i := 1790) (by decide +kernel)) rfl
theorem w_1791 : Cond.methodLink "DearLettersModel" 600 ⟨"DearLettersModel", "qDrops", "()V"⟩ ∈ z_tbl := z_tbl_in (List.mem_of_getElem? (i := 1791) (by decide +kernel)) rfl
theorem w_1793 : Cond.instanceMethod ⟨"DearLettersModel", "qDrops", "()V"⟩ ∈ z_tbl := z_tbl_in (List.mem_of_getElem? (i := 1793) (by decide +kernel)) rfl
theorem w_1794 : Cond.code ⟨"DearLettersModel", "qDrops", "()V"⟩ prog_14_method_108_code 1 none ∈ z_tbl := z_tbl_in (List.mem_of_getElem? (i := 1794) (by decide +kernel)) rfl
theorem w_1795 : Cond.methodLink "DearLettersModel" 633 ⟨"DearLettersModel", "qGoesOn", "()Z"⟩ ∈ z_tbl := z_tbl_in (List.mem_of_getElem? (i := 1795) (by decide +kernel)) rfl
theorem w_1797 : Cond.instanceMethod ⟨"DearLettersModel", "qGoesOn", "()Z"⟩ ∈ z_tbl := z_tbl_in (List.mem_of_getElem? (i := 1797) (by decide +kernel)) rfl
theorem w_1798 : Cond.code ⟨"DearLettersModel", "qGoesOn", "()Z"⟩ prog_14_method_117_code 2 (Option.some FieldType.boolean) ∈ z_tbl := z_tbl_in (List.mem_of_getElem? (i := 1798) (by decide +kernel)) rfl
theorem w_1799 : Cond.methodLink "DearLettersModel" 621 ⟨"DearLettersModel", "qBracket", "()I"⟩ ∈ z_tbl := z_tbl_in (List.mem_of_getElem? (i := 1799) (by decide +kernel)) rfl
theorem w_1801 : Cond.instanceMethod ⟨"DearLettersModel", "qBracket", "()I"⟩ ∈ z_tbl := z_tbl_in (List.mem_of_getElem? (i := 1801) (by decide +kernel)) rfl
theorem w_1802 : Cond.code ⟨"DearLettersModel", "qBracket", "()I"⟩ prog_14_method_110_code 2 (Option.some FieldType.int) ∈ z_tbl := z_tbl_in (List.mem_of_getElem? (i := 1802) (by decide +kernel)) rfl
theorem w_1803 : Cond.methodLink "DearLettersModel" 597 ⟨"DearLettersModel", "qIsBracket", "(I)Z"⟩ ∈ z_tbl := z_tbl_in (List.mem_of_getElem? (i := 1803) (by decide +kernel)) rfl
theorem w_1804 : Cond.static ⟨"DearLettersModel", "qIsBracket", "(I)Z"⟩ ∈ z_tbl := z_tbl_in (List.mem_of_getElem? (i := 1804) (by decide +kernel)) rfl
theorem w_1805 : Cond.code ⟨"DearLettersModel", "qIsBracket", "(I)Z"⟩ prog_14_method_109_code 1 (Option.some FieldType.boolean) ∈ z_tbl := z_tbl_in (List.mem_of_getElem? (i := 1805) (by decide +kernel)) rfl
theorem w_1806 : Cond.methodLink "DearLettersModel" 624 ⟨"DearLettersModel", "qDropsToBracket", "()V"⟩ ∈ z_tbl := z_tbl_in (List.mem_of_getElem? (i := 1806) (by decide +kernel)) rfl
theorem w_1808 : Cond.instanceMethod ⟨"DearLettersModel", "qDropsToBracket", "()V"⟩ ∈ z_tbl := z_tbl_in (List.mem_of_getElem? (i := 1808) (by decide +kernel)) rfl
theorem w_1809 : Cond.code ⟨"DearLettersModel", "qDropsToBracket", "()V"⟩ prog_14_method_111_code 1 none ∈ z_tbl := z_tbl_in (List.mem_of_getElem? (i := 1809) (by decide +kernel)) rfl
theorem w_1810 : Cond.methodLink "DearLettersModel" 627 ⟨"DearLettersModel", "qIsOn", "(I)Z"⟩ ∈ z_tbl := z_tbl_in (List.mem_of_getElem? (i := 1810) (by decide +kernel)) rfl
theorem w_1812 : Cond.instanceMethod ⟨"DearLettersModel", "qIsOn", "(I)Z"⟩ ∈ z_tbl := z_tbl_in (List.mem_of_getElem? (i := 1812) (by decide +kernel)) rfl
theorem w_1813 : Cond.code ⟨"DearLettersModel", "qIsOn", "(I)Z"⟩ prog_14_method_107_code 2 (Option.some FieldType.boolean) ∈ z_tbl := z_tbl_in (List.mem_of_getElem? (i := 1813) (by decide +kernel)) rfl
theorem w_1814 : Cond.methodLink "DearLettersModel" 404 ⟨"DearLettersModel", "stands", "()V"⟩ ∈ z_tbl := z_tbl_in (List.mem_of_getElem? (i := 1814) (by decide +kernel)) rfl
theorem w_1816 : Cond.instanceMethod ⟨"DearLettersModel", "stands", "()V"⟩ ∈ z_tbl := z_tbl_in (List.mem_of_getElem? (i := 1816) (by decide +kernel)) rfl
theorem w_1817 : Cond.code ⟨"DearLettersModel", "stands", "()V"⟩ prog_14_method_32_code 2 none ∈ z_tbl := z_tbl_in (List.mem_of_getElem? (i := 1817) (by decide +kernel)) rfl
theorem w_1818 : Cond.methodLink "DearLettersModel" 407 ⟨"DearLettersModel", "leftAnew", "()V"⟩ ∈ z_tbl := z_tbl_in (List.mem_of_getElem? (i := 1818) (by decide +kernel)) rfl
theorem w_1820 : Cond.instanceMethod ⟨"DearLettersModel", "leftAnew", "()V"⟩ ∈ z_tbl := z_tbl_in (List.mem_of_getElem? (i := 1820) (by decide +kernel)) rfl
theorem w_1821 : Cond.code ⟨"DearLettersModel", "leftAnew", "()V"⟩ prog_14_method_46_code 2 none ∈ z_tbl := z_tbl_in (List.mem_of_getElem? (i := 1821) (by decide +kernel)) rfl
theorem w_1822 : Cond.methodLink "DearLettersModel" 422 ⟨"DearLettersModel", "helperMany", "()I"⟩ ∈ z_tbl := z_tbl_in (List.mem_of_getElem? (i := 1822) (by decide +kernel)) rfl
theorem w_1824 : Cond.instanceMethod ⟨"DearLettersModel", "helperMany", "()I"⟩ ∈ z_tbl := z_tbl_in (List.mem_of_getElem? (i := 1824) (by decide +kernel)) rfl
theorem w_1825 : Cond.code ⟨"DearLettersModel", "helperMany", "()I"⟩ prog_14_method_36_code 1 (Option.some FieldType.int) ∈ z_tbl := z_tbl_in (List.mem_of_getElem? (i := 1825) (by decide +kernel)) rfl
theorem w_1826 : Cond.methodLink "DearLettersModel" 410 ⟨"DearLettersModel", "giftMany", "()I"⟩ ∈ z_tbl := z_tbl_in (List.mem_of_getElem? (i := 1826) (by decide +kernel)) rfl
theorem w_1828 : Cond.instanceMethod ⟨"DearLettersModel", "giftMany", "()I"⟩ ∈ z_tbl := z_tbl_in (List.mem_of_getElem? (i := 1828) (by decide +kernel)) rfl
theorem w_1829 : Cond.code ⟨"DearLettersModel", "giftMany", "()I"⟩ prog_14_method_35_code 1 (Option.some FieldType.int) ∈ z_tbl := z_tbl_in (List.mem_of_getElem? (i := 1829) (by decide +kernel)) rfl
theorem w_1838 : Cond.methodLink "DearLettersModel" 491 ⟨"DearLettersModel", "manyWith", "(I)I"⟩ ∈ z_tbl := z_tbl_in (List.mem_of_getElem? (i := 1838) (by decide +kernel)) rfl
theorem w_1840 : Cond.instanceMethod ⟨"DearLettersModel", "manyWith", "(I)I"⟩ ∈ z_tbl := z_tbl_in (List.mem_of_getElem? (i := 1840) (by decide +kernel)) rfl
theorem w_1841 : Cond.code ⟨"DearLettersModel", "manyWith", "(I)I"⟩ prog_14_method_64_code 4 (Option.some FieldType.int) ∈ z_tbl := z_tbl_in (List.mem_of_getElem? (i := 1841) (by decide +kernel)) rfl
theorem w_1842 : Cond.methodLink "DearLettersModel" 419 ⟨"DearLettersModel", "letterMany", "()I"⟩ ∈ z_tbl := z_tbl_in (List.mem_of_getElem? (i := 1842) (by decide +kernel)) rfl
theorem w_1844 : Cond.instanceMethod ⟨"DearLettersModel", "letterMany", "()I"⟩ ∈ z_tbl := z_tbl_in (List.mem_of_getElem? (i := 1844) (by decide +kernel)) rfl
theorem w_1845 : Cond.code ⟨"DearLettersModel", "letterMany", "()I"⟩ prog_14_method_34_code 1 (Option.some FieldType.int) ∈ z_tbl := z_tbl_in (List.mem_of_getElem? (i := 1845) (by decide +kernel)) rfl
theorem w_1846 : Cond.methodLink "DearLettersModel" 494 ⟨"DearLettersModel", "leftAll", "()I"⟩ ∈ z_tbl := z_tbl_in (List.mem_of_getElem? (i := 1846) (by decide +kernel)) rfl
theorem w_1848 : Cond.instanceMethod ⟨"DearLettersModel", "leftAll", "()I"⟩ ∈ z_tbl := z_tbl_in (List.mem_of_getElem? (i := 1848) (by decide +kernel)) rfl
theorem w_1849 : Cond.code ⟨"DearLettersModel", "leftAll", "()I"⟩ prog_14_method_65_code 3 (Option.some FieldType.int) ∈ z_tbl := z_tbl_in (List.mem_of_getElem? (i := 1849) (by decide +kernel)) rfl
theorem w_1850 : Cond.methodLink "DearLettersModel" 458 ⟨"DearLettersModel", "leftOf", "(I)I"⟩ ∈ z_tbl := z_tbl_in (List.mem_of_getElem? (i := 1850) (by decide +kernel)) rfl
theorem w_1852 : Cond.instanceMethod ⟨"DearLettersModel", "leftOf", "(I)I"⟩ ∈ z_tbl := z_tbl_in (List.mem_of_getElem? (i := 1852) (by decide +kernel)) rfl
theorem w_1853 : Cond.code ⟨"DearLettersModel", "leftOf", "(I)I"⟩ prog_14_method_43_code 2 (Option.some FieldType.int) ∈ z_tbl := z_tbl_in (List.mem_of_getElem? (i := 1853) (by decide +kernel)) rfl
theorem w_1858 : Cond.constantLong "DearLettersModel" 497 (2) ∈ z_tbl := z_tbl_in (List.mem_of_getElem? (i := 1858) (by decide +kernel)) rfl
theorem w_1859 : Cond.constantLong "DearLettersModel" 499 (5) ∈ z_tbl := z_tbl_in (List.mem_of_getElem? (i := 1859) (by decide +kernel)) rfl
theorem w_1864 : Cond.methodLink "DearLettersModel" 501 ⟨"DearLettersModel", "isMail", "(I)Z"⟩ ∈ z_tbl := z_tbl_in (List.mem_of_getElem? (i := 1864) (by decide +kernel)) rfl
theorem w_1866 : Cond.instanceMethod ⟨"DearLettersModel", "isMail", "(I)Z"⟩ ∈ z_tbl := z_tbl_in (List.mem_of_getElem? (i := 1866) (by decide +kernel)) rfl
theorem w_1867 : Cond.code ⟨"DearLettersModel", "isMail", "(I)Z"⟩ prog_14_method_37_code 2 (Option.some FieldType.boolean) ∈ z_tbl := z_tbl_in (List.mem_of_getElem? (i := 1867) (by decide +kernel)) rfl
theorem w_1868 : Cond.methodLink "DearLettersModel" 451 ⟨"DearLettersModel", "doneOf", "(I)I"⟩ ∈ z_tbl := z_tbl_in (List.mem_of_getElem? (i := 1868) (by decide +kernel)) rfl
theorem w_1870 : Cond.instanceMethod ⟨"DearLettersModel", "doneOf", "(I)I"⟩ ∈ z_tbl := z_tbl_in (List.mem_of_getElem? (i := 1870) (by decide +kernel)) rfl
theorem w_1871 : Cond.code ⟨"DearLettersModel", "doneOf", "(I)I"⟩ prog_14_method_40_code 2 (Option.some FieldType.int) ∈ z_tbl := z_tbl_in (List.mem_of_getElem? (i := 1871) (by decide +kernel)) rfl
theorem w_1872 : Cond.methodLink "DearLettersModel" 504 ⟨"DearLettersModel", "sheetOf", "(I)I"⟩ ∈ z_tbl := z_tbl_in (List.mem_of_getElem? (i := 1872) (by decide +kernel)) rfl
theorem w_1874 : Cond.instanceMethod ⟨"DearLettersModel", "sheetOf", "(I)I"⟩ ∈ z_tbl := z_tbl_in (List.mem_of_getElem? (i := 1874) (by decide +kernel)) rfl
theorem w_1875 : Cond.code ⟨"DearLettersModel", "sheetOf", "(I)I"⟩ prog_14_method_41_code 2 (Option.some FieldType.int) ∈ z_tbl := z_tbl_in (List.mem_of_getElem? (i := 1875) (by decide +kernel)) rfl
theorem w_1876 : Cond.methodLink "DearLettersModel" 507 ⟨"DearLettersModel", "giftOf", "(I)I"⟩ ∈ z_tbl := z_tbl_in (List.mem_of_getElem? (i := 1876) (by decide +kernel)) rfl
theorem w_1878 : Cond.instanceMethod ⟨"DearLettersModel", "giftOf", "(I)I"⟩ ∈ z_tbl := z_tbl_in (List.mem_of_getElem? (i := 1878) (by decide +kernel)) rfl
theorem w_1879 : Cond.code ⟨"DearLettersModel", "giftOf", "(I)I"⟩ prog_14_method_42_code 2 (Option.some FieldType.int) ∈ z_tbl := z_tbl_in (List.mem_of_getElem? (i := 1879) (by decide +kernel)) rfl
theorem w_1880 : Cond.methodLink "DearLettersModel" 510 ⟨"DearLettersModel", "wishesOf", "(I)I"⟩ ∈ z_tbl := z_tbl_in (List.mem_of_getElem? (i := 1880) (by decide +kernel)) rfl
theorem w_1882 : Cond.instanceMethod ⟨"DearLettersModel", "wishesOf", "(I)I"⟩ ∈ z_tbl := z_tbl_in (List.mem_of_getElem? (i := 1882) (by decide +kernel)) rfl
theorem w_1883 : Cond.code ⟨"DearLettersModel", "wishesOf", "(I)I"⟩ prog_14_method_45_code 4 (Option.some FieldType.int) ∈ z_tbl := z_tbl_in (List.mem_of_getElem? (i := 1883) (by decide +kernel)) rfl
theorem w_1884 : Cond.methodLink "DearLettersModel" 425 ⟨"DearLettersModel", "wishOf", "(II)I"⟩ ∈ z_tbl := z_tbl_in (List.mem_of_getElem? (i := 1884) (by decide +kernel)) rfl
theorem w_1886 : Cond.instanceMethod ⟨"DearLettersModel", "wishOf", "(II)I"⟩ ∈ z_tbl := z_tbl_in (List.mem_of_getElem? (i := 1886) (by decide +kernel)) rfl
theorem w_1887 : Cond.code ⟨"DearLettersModel", "wishOf", "(II)I"⟩ prog_14_method_44_code 3 (Option.some FieldType.int) ∈ z_tbl := z_tbl_in (List.mem_of_getElem? (i := 1887) (by decide +kernel)) rfl
theorem w_1892 : Cond.methodLink "DearLettersModel" 513 ⟨"DearLettersModel", "isGift", "(I)Z"⟩ ∈ z_tbl := z_tbl_in (List.mem_of_getElem? (i := 1892) (by decide +kernel)) rfl
theorem w_1894 : Cond.instanceMethod ⟨"DearLettersModel", "isGift", "(I)Z"⟩ ∈ z_tbl := z_tbl_in (List.mem_of_getElem? (i := 1894) (by decide +kernel)) rfl
theorem w_1895 : Cond.code ⟨"DearLettersModel", "isGift", "(I)Z"⟩ prog_14_method_38_code 2 (Option.some FieldType.boolean) ∈ z_tbl := z_tbl_in (List.mem_of_getElem? (i := 1895) (by decide +kernel)) rfl
theorem w_1900 : Cond.methodLink "DearLettersModel" 516 ⟨"DearLettersModel", "isHelper", "(I)Z"⟩ ∈ z_tbl := z_tbl_in (List.mem_of_getElem? (i := 1900) (by decide +kernel)) rfl
theorem w_1902 : Cond.instanceMethod ⟨"DearLettersModel", "isHelper", "(I)Z"⟩ ∈ z_tbl := z_tbl_in (List.mem_of_getElem? (i := 1902) (by decide +kernel)) rfl
theorem w_1903 : Cond.code ⟨"DearLettersModel", "isHelper", "(I)Z"⟩ prog_14_method_39_code 2 (Option.some FieldType.boolean) ∈ z_tbl := z_tbl_in (List.mem_of_getElem? (i := 1903) (by decide +kernel)) rfl
theorem w_1908 : Cond.methodLink "DearLettersModel" 461 ⟨"DearLettersModel", "timeOf", "(II)I"⟩ ∈ z_tbl := z_tbl_in (List.mem_of_getElem? (i := 1908) (by decide +kernel)) rfl
theorem w_1910 : Cond.instanceMethod ⟨"DearLettersModel", "timeOf", "(II)I"⟩ ∈ z_tbl := z_tbl_in (List.mem_of_getElem? (i := 1910) (by decide +kernel)) rfl
theorem w_1911 : Cond.code ⟨"DearLettersModel", "timeOf", "(II)I"⟩ prog_14_method_48_code 5 (Option.some FieldType.int) ∈ z_tbl := z_tbl_in (List.mem_of_getElem? (i := 1911) (by decide +kernel)) rfl
theorem w_1912 : Cond.methodLink "DearLettersModel" 445 ⟨"DearLettersModel", "codesTell", "(III)J"⟩ ∈ z_tbl := z_tbl_in (List.mem_of_getElem? (i := 1912) (by decide +kernel)) rfl
theorem w_1914 : Cond.instanceMethod ⟨"DearLettersModel", "codesTell", "(III)J"⟩ ∈ z_tbl := z_tbl_in (List.mem_of_getElem? (i := 1914) (by decide +kernel)) rfl
theorem w_1915 : Cond.code ⟨"DearLettersModel", "codesTell", "(III)J"⟩ prog_14_method_47_code 6 (Option.some FieldType.long) ∈ z_tbl := z_tbl_in (List.mem_of_getElem? (i := 1915) (by decide +kernel)) rfl
theorem w_1916 : Cond.methodLink "DearLettersModel" 434 ⟨"DearLettersModel", "qPuts", "(J)V"⟩ ∈ z_tbl := z_tbl_in (List.mem_of_getElem? (i := 1916) (by decide +kernel)) rfl
theorem w_1918 : Cond.instanceMethod ⟨"DearLettersModel", "qPuts", "(J)V"⟩ ∈ z_tbl := z_tbl_in (List.mem_of_getElem? (i := 1918) (by decide +kernel)) rfl
theorem w_1919 : Cond.code ⟨"DearLettersModel", "qPuts", "(J)V"⟩ prog_14_method_126_code 3 none ∈ z_tbl := z_tbl_in (List.mem_of_getElem? (i := 1919) (by decide +kernel)) rfl
theorem w_1920 : Cond.methodLink "DearLettersModel" 438 ⟨"DearLettersModel", "qPartOf", "(II)J"⟩ ∈ z_tbl := z_tbl_in (List.mem_of_getElem? (i := 1920) (by decide +kernel)) rfl
theorem w_1922 : Cond.instanceMethod ⟨"DearLettersModel", "qPartOf", "(II)J"⟩ ∈ z_tbl := z_tbl_in (List.mem_of_getElem? (i := 1922) (by decide +kernel)) rfl
theorem w_1923 : Cond.code ⟨"DearLettersModel", "qPartOf", "(II)J"⟩ prog_14_method_128_code 3 (Option.some FieldType.long) ∈ z_tbl := z_tbl_in (List.mem_of_getElem? (i := 1923) (by decide +kernel)) rfl
theorem w_1924 : Cond.methodLink "DearLettersModel" 442 ⟨"DearLettersModel", "qJoins", "(I)V"⟩ ∈ z_tbl := z_tbl_in (List.mem_of_getElem? (i := 1924) (by decide +kernel)) rfl
theorem w_1926 : Cond.instanceMethod ⟨"DearLettersModel", "qJoins", "(I)V"⟩ ∈ z_tbl := z_tbl_in (List.mem_of_getElem? (i := 1926) (by decide +kernel)) rfl
theorem w_1927 : Cond.code ⟨"DearLettersModel", "qJoins", "(I)V"⟩ prog_14_method_127_code 6 none ∈ z_tbl := z_tbl_in (List.mem_of_getElem? (i := 1927) (by decide +kernel)) rfl
theorem w_1928 : Cond.methodLink "DearLettersModel" 652 ⟨"DearLettersModel", "qClip", "(J)J"⟩ ∈ z_tbl := z_tbl_in (List.mem_of_getElem? (i := 1928) (by decide +kernel)) rfl
theorem w_1929 : Cond.static ⟨"DearLettersModel", "qClip", "(J)J"⟩ ∈ z_tbl := z_tbl_in (List.mem_of_getElem? (i := 1929) (by decide +kernel)) rfl
theorem w_1930 : Cond.code ⟨"DearLettersModel", "qClip", "(J)J"⟩ prog_14_method_124_code 2 (Option.some FieldType.long) ∈ z_tbl := z_tbl_in (List.mem_of_getElem? (i := 1930) (by decide +kernel)) rfl
theorem w_1931 : Cond.constantLong "DearLettersModel" 648 (1000000) ∈ z_tbl := z_tbl_in (List.mem_of_getElem? (i := 1931) (by decide +kernel)) rfl
theorem w_1932 : Cond.constantLong "DearLettersModel" 650 (-1000000) ∈ z_tbl := z_tbl_in (List.mem_of_getElem? (i := 1932) (by decide +kernel)) rfl
theorem w_1933 : Cond.methodLink "DearLettersModel" 656 ⟨"DearLettersModel", "qFloor", "(JJ)J"⟩ ∈ z_tbl := z_tbl_in (List.mem_of_getElem? (i := 1933) (by decide +kernel)) rfl
theorem w_1934 : Cond.static ⟨"DearLettersModel", "qFloor", "(JJ)J"⟩ ∈ z_tbl := z_tbl_in (List.mem_of_getElem? (i := 1934) (by decide +kernel)) rfl
theorem w_1935 : Cond.code ⟨"DearLettersModel", "qFloor", "(JJ)J"⟩ prog_14_method_125_code 6 (Option.some FieldType.long) ∈ z_tbl := z_tbl_in (List.mem_of_getElem? (i := 1935) (by decide +kernel)) rfl
theorem w_1936 : Cond.constantLong "DearLettersModel" 449 (999) ∈ z_tbl := z_tbl_in (List.mem_of_getElem? (i := 1936) (by decide +kernel)) rfl
theorem w_1941 : Cond.methodLink "DearLettersModel" 464 ⟨"DearLettersModel", "warmOf", "(II)J"⟩ ∈ z_tbl := z_tbl_in (List.mem_of_getElem? (i := 1941) (by decide +kernel)) rfl
theorem w_1943 : Cond.instanceMethod ⟨"DearLettersModel", "warmOf", "(II)J"⟩ ∈ z_tbl := z_tbl_in (List.mem_of_getElem? (i := 1943) (by decide +kernel)) rfl
theorem w_1944 : Cond.code ⟨"DearLettersModel", "warmOf", "(II)J"⟩ prog_14_method_49_code 3 (Option.some FieldType.long) ∈ z_tbl := z_tbl_in (List.mem_of_getElem? (i := 1944) (by decide +kernel)) rfl
theorem w_1945 : Cond.constantLong "DearLettersModel" 519 (-1000000000000000) ∈ z_tbl := z_tbl_in (List.mem_of_getElem? (i := 1945) (by decide +kernel)) rfl
theorem w_1950 : Cond.methodLink "DearLettersModel" 521 ⟨"DearLettersModel", "canAnswer", "(II)Z"⟩ ∈ z_tbl := z_tbl_in (List.mem_of_getElem? (i := 1950) (by decide +kernel)) rfl
theorem w_1952 : Cond.instanceMethod ⟨"DearLettersModel", "canAnswer", "(II)Z"⟩ ∈ z_tbl := z_tbl_in (List.mem_of_getElem? (i := 1952) (by decide +kernel)) rfl
theorem w_1953 : Cond.code ⟨"DearLettersModel", "canAnswer", "(II)Z"⟩ prog_14_method_51_code 3 (Option.some FieldType.boolean) ∈ z_tbl := z_tbl_in (List.mem_of_getElem? (i := 1953) (by decide +kernel)) rfl
theorem w_1954 : Cond.methodLink "DearLettersModel" 454 ⟨"DearLettersModel", "doesBear", "(II)Z"⟩ ∈ z_tbl := z_tbl_in (List.mem_of_getElem? (i := 1954) (by decide +kernel)) rfl
theorem w_1956 : Cond.instanceMethod ⟨"DearLettersModel", "doesBear", "(II)Z"⟩ ∈ z_tbl := z_tbl_in (List.mem_of_getElem? (i := 1956) (by decide +kernel)) rfl
theorem w_1957 : Cond.code ⟨"DearLettersModel", "doesBear", "(II)Z"⟩ prog_14_method_50_code 3 (Option.some FieldType.boolean) ∈ z_tbl := z_tbl_in (List.mem_of_getElem? (i := 1957) (by decide +kernel)) rfl
theorem w_1962 : Cond.methodLink "DearLettersModel" 485 ⟨"DearLettersModel", "laysWarmest", "()I"⟩ ∈ z_tbl := z_tbl_in (List.mem_of_getElem? (i := 1962) (by decide +kernel)) rfl
theorem w_1964 : Cond.instanceMethod ⟨"DearLettersModel", "laysWarmest", "()I"⟩ ∈ z_tbl := z_tbl_in (List.mem_of_getElem? (i := 1964) (by decide +kernel)) rfl
theorem w_1965 : Cond.code ⟨"DearLettersModel", "laysWarmest", "()I"⟩ prog_14_method_58_code 6 (Option.some FieldType.int) ∈ z_tbl := z_tbl_in (List.mem_of_getElem? (i := 1965) (by decide +kernel)) rfl
theorem w_1966 : Cond.methodLink "DearLettersModel" 467 ⟨"DearLettersModel", "laysTimes", "()V"⟩ ∈ z_tbl := z_tbl_in (List.mem_of_getElem? (i := 1966) (by decide +kernel)) rfl
theorem w_1968 : Cond.instanceMethod ⟨"DearLettersModel", "laysTimes", "()V"⟩ ∈ z_tbl := z_tbl_in (List.mem_of_getElem? (i := 1968) (by decide +kernel)) rfl
theorem w_1969 : Cond.code ⟨"DearLettersModel", "laysTimes", "()V"⟩ prog_14_method_56_code 3 none ∈ z_tbl := z_tbl_in (List.mem_of_getElem? (i := 1969) (by decide +kernel)) rfl
theorem w_1970 : Cond.methodLink "DearLettersModel" 473 ⟨"DearLettersModel", "isNextRow", "()Z"⟩ ∈ z_tbl := z_tbl_in (List.mem_of_getElem? (i := 1970) (by decide +kernel)) rfl
theorem w_1972 : Cond.instanceMethod ⟨"DearLettersModel", "isNextRow", "()Z"⟩ ∈ z_tbl := z_tbl_in (List.mem_of_getElem? (i := 1972) (by decide +kernel)) rfl
theorem w_1973 : Cond.code ⟨"DearLettersModel", "isNextRow", "()Z"⟩ prog_14_method_53_code 2 (Option.some FieldType.boolean) ∈ z_tbl := z_tbl_in (List.mem_of_getElem? (i := 1973) (by decide +kernel)) rfl
theorem w_1974 : Cond.methodLink "DearLettersModel" 476 ⟨"DearLettersModel", "answeredIn", "()I"⟩ ∈ z_tbl := z_tbl_in (List.mem_of_getElem? (i := 1974) (by decide +kernel)) rfl
theorem w_1976 : Cond.instanceMethod ⟨"DearLettersModel", "answeredIn", "()I"⟩ ∈ z_tbl := z_tbl_in (List.mem_of_getElem? (i := 1976) (by decide +kernel)) rfl
theorem w_1977 : Cond.code ⟨"DearLettersModel", "answeredIn", "()I"⟩ prog_14_method_54_code 3 (Option.some FieldType.int) ∈ z_tbl := z_tbl_in (List.mem_of_getElem? (i := 1977) (by decide +kernel)) rfl
theorem w_1978 : Cond.methodLink "DearLettersModel" 479 ⟨"DearLettersModel", "canRow", "()Z"⟩ ∈ z_tbl := z_tbl_in (List.mem_of_getElem? (i := 1978) (by decide +kernel)) rfl
theorem w_1980 : Cond.instanceMethod ⟨"DearLettersModel", "canRow", "()Z"⟩ ∈ z_tbl := z_tbl_in (List.mem_of_getElem? (i := 1980) (by decide +kernel)) rfl
theorem w_1981 : Cond.code ⟨"DearLettersModel", "canRow", "()Z"⟩ prog_14_method_55_code 3 (Option.some FieldType.boolean) ∈ z_tbl := z_tbl_in (List.mem_of_getElem? (i := 1981) (by decide +kernel)) rfl
theorem w_1982 : Cond.methodLink "DearLettersModel" 482 ⟨"DearLettersModel", "warmIn", "()J"⟩ ∈ z_tbl := z_tbl_in (List.mem_of_getElem? (i := 1982) (by decide +kernel)) rfl
theorem w_1984 : Cond.instanceMethod ⟨"DearLettersModel", "warmIn", "()J"⟩ ∈ z_tbl := z_tbl_in (List.mem_of_getElem? (i := 1984) (by decide +kernel)) rfl
theorem w_1985 : Cond.code ⟨"DearLettersModel", "warmIn", "()J"⟩ prog_14_method_57_code 4 (Option.some FieldType.long) ∈ z_tbl := z_tbl_in (List.mem_of_getElem? (i := 1985) (by decide +kernel)) rfl
theorem w_1994 : Cond.methodLink "DearLettersModel" 524 ⟨"DearLettersModel", "isAhead", "(III)Z"⟩ ∈ z_tbl := z_tbl_in (List.mem_of_getElem? (i := 1994) (by decide +kernel)) rfl
theorem w_1996 : Cond.instanceMethod ⟨"DearLettersModel", "isAhead", "(III)Z"⟩ ∈ z_tbl := z_tbl_in (List.mem_of_getElem? (i := 1996) (by decide +kernel)) rfl
theorem w_1997 : Cond.code ⟨"DearLettersModel", "isAhead", "(III)Z"⟩ prog_14_method_62_code 4 (Option.some FieldType.boolean) ∈ z_tbl := z_tbl_in (List.mem_of_getElem? (i := 1997) (by decide +kernel)) rfl
theorem w_1998 : Cond.methodLink "DearLettersModel" 527 ⟨"DearLettersModel", "putsAside", "()V"⟩ ∈ z_tbl := z_tbl_in (List.mem_of_getElem? (i := 1998) (by decide +kernel)) rfl
theorem w_2000 : Cond.instanceMethod ⟨"DearLettersModel", "putsAside", "()V"⟩ ∈ z_tbl := z_tbl_in (List.mem_of_getElem? (i := 2000) (by decide +kernel)) rfl
theorem w_2001 : Cond.code ⟨"DearLettersModel", "putsAside", "()V"⟩ prog_14_method_60_code 2 none ∈ z_tbl := z_tbl_in (List.mem_of_getElem? (i := 2001) (by decide +kernel)) rfl
theorem w_2002 : Cond.methodLink "DearLettersModel" 530 ⟨"DearLettersModel", "eveningGoes", "()I"⟩ ∈ z_tbl := z_tbl_in (List.mem_of_getElem? (i := 2002) (by decide +kernel)) rfl
theorem w_2004 : Cond.instanceMethod ⟨"DearLettersModel", "eveningGoes", "()I"⟩ ∈ z_tbl := z_tbl_in (List.mem_of_getElem? (i := 2004) (by decide +kernel)) rfl
theorem w_2005 : Cond.code ⟨"DearLettersModel", "eveningGoes", "()I"⟩ prog_14_method_59_code 3 (Option.some FieldType.int) ∈ z_tbl := z_tbl_in (List.mem_of_getElem? (i := 2005) (by decide +kernel)) rfl
theorem w_2006 : Cond.methodLink "DearLettersModel" 488 ⟨"DearLettersModel", "isAnswered", "(II)V"⟩ ∈ z_tbl := z_tbl_in (List.mem_of_getElem? (i := 2006) (by decide +kernel)) rfl
theorem w_2008 : Cond.instanceMethod ⟨"DearLettersModel", "isAnswered", "(II)V"⟩ ∈ z_tbl := z_tbl_in (List.mem_of_getElem? (i := 2008) (by decide +kernel)) rfl
theorem w_2009 : Cond.code ⟨"DearLettersModel", "isAnswered", "(II)V"⟩ prog_14_method_52_code 3 none ∈ z_tbl := z_tbl_in (List.mem_of_getElem? (i := 2009) (by decide +kernel)) rfl
theorem w_2010 : Cond.methodLink "DearLettersModel" 533 ⟨"DearLettersModel", "answeredMany", "()I"⟩ ∈ z_tbl := z_tbl_in (List.mem_of_getElem? (i := 2010) (by decide +kernel)) rfl
theorem w_2012 : Cond.instanceMethod ⟨"DearLettersModel", "answeredMany", "()I"⟩ ∈ z_tbl := z_tbl_in (List.mem_of_getElem? (i := 2012) (by decide +kernel)) rfl
theorem w_2013 : Cond.code ⟨"DearLettersModel", "answeredMany", "()I"⟩ prog_14_method_63_code 3 (Option.some FieldType.int) ∈ z_tbl := z_tbl_in (List.mem_of_getElem? (i := 2013) (by decide +kernel)) rfl
theorem w_2014 : Cond.methodLink "DearLettersModel" 536 ⟨"DearLettersModel", "takesBack", "()V"⟩ ∈ z_tbl := z_tbl_in (List.mem_of_getElem? (i := 2014) (by decide +kernel)) rfl
theorem w_2016 : Cond.instanceMethod ⟨"DearLettersModel", "takesBack", "()V"⟩ ∈ z_tbl := z_tbl_in (List.mem_of_getElem? (i := 2016) (by decide +kernel)) rfl
theorem w_2017 : Cond.code ⟨"DearLettersModel", "takesBack", "()V"⟩ prog_14_method_61_code 2 none ∈ z_tbl := z_tbl_in (List.mem_of_getElem? (i := 2017) (by decide +kernel)) rfl
theorem w_2026 : Cond.methodLink "DearLettersModel" 542 ⟨"DearLettersModel", "laysSheets", "(I)Z"⟩ ∈ z_tbl := z_tbl_in (List.mem_of_getElem? (i := 2026) (by decide +kernel)) rfl
theorem w_2028 : Cond.instanceMethod ⟨"DearLettersModel", "laysSheets", "(I)Z"⟩ ∈ z_tbl := z_tbl_in (List.mem_of_getElem? (i := 2028) (by decide +kernel)) rfl
theorem w_2029 : Cond.code ⟨"DearLettersModel", "laysSheets", "(I)Z"⟩ prog_14_method_79_code 3 (Option.some FieldType.boolean) ∈ z_tbl := z_tbl_in (List.mem_of_getElem? (i := 2029) (by decide +kernel)) rfl
theorem w_2030 : Cond.methodLink "DearLettersModel" 539 ⟨"DearLettersModel", "isApart", "(I)Z"⟩ ∈ z_tbl := z_tbl_in (List.mem_of_getElem? (i := 2030) (by decide +kernel)) rfl
theorem w_2032 : Cond.instanceMethod ⟨"DearLettersModel", "isApart", "(I)Z"⟩ ∈ z_tbl := z_tbl_in (List.mem_of_getElem? (i := 2032) (by decide +kernel)) rfl
theorem w_2033 : Cond.code ⟨"DearLettersModel", "isApart", "(I)Z"⟩ prog_14_method_78_code 3 (Option.some FieldType.boolean) ∈ z_tbl := z_tbl_in (List.mem_of_getElem? (i := 2033) (by decide +kernel)) rfl
theorem w_2038 : Cond.methodLink "DearLettersModel" 545 ⟨"DearLettersModel", "sharedIn", "()I"⟩ ∈ z_tbl := z_tbl_in (List.mem_of_getElem? (i := 2038) (by decide +kernel)) rfl
theorem w_2040 : Cond.instanceMethod ⟨"DearLettersModel", "sharedIn", "()I"⟩ ∈ z_tbl := z_tbl_in (List.mem_of_getElem? (i := 2040) (by decide +kernel)) rfl
theorem w_2041 : Cond.code ⟨"DearLettersModel", "sharedIn", "()I"⟩ prog_14_method_82_code 3 (Option.some FieldType.int) ∈ z_tbl := z_tbl_in (List.mem_of_getElem? (i := 2041) (by decide +kernel)) rfl
theorem w_2042 : Cond.methodLink "DearLettersModel" 548 ⟨"DearLettersModel", "canGive", "()Z"⟩ ∈ z_tbl := z_tbl_in (List.mem_of_getElem? (i := 2042) (by decide +kernel)) rfl
theorem w_2044 : Cond.instanceMethod ⟨"DearLettersModel", "canGive", "()Z"⟩ ∈ z_tbl := z_tbl_in (List.mem_of_getElem? (i := 2044) (by decide +kernel)) rfl
theorem w_2045 : Cond.code ⟨"DearLettersModel", "canGive", "()Z"⟩ prog_14_method_81_code 2 (Option.some FieldType.boolean) ∈ z_tbl := z_tbl_in (List.mem_of_getElem? (i := 2045) (by decide +kernel)) rfl
theorem w_2050 : Cond.methodLink "DearLettersModel" 551 ⟨"DearLettersModel", "lostBy", "(I)I"⟩ ∈ z_tbl := z_tbl_in (List.mem_of_getElem? (i := 2050) (by decide +kernel)) rfl
theorem w_2052 : Cond.instanceMethod ⟨"DearLettersModel", "lostBy", "(I)I"⟩ ∈ z_tbl := z_tbl_in (List.mem_of_getElem? (i := 2052) (by decide +kernel)) rfl
theorem w_2053 : Cond.code ⟨"DearLettersModel", "lostBy", "(I)I"⟩ prog_14_method_84_code 5 (Option.some FieldType.int) ∈ z_tbl := z_tbl_in (List.mem_of_getElem? (i := 2053) (by decide +kernel)) rfl
theorem w_2058 : Cond.methodLink "DearLettersModel" 554 ⟨"DearLettersModel", "oddsIn", "()J"⟩ ∈ z_tbl := z_tbl_in (List.mem_of_getElem? (i := 2058) (by decide +kernel)) rfl
theorem w_2060 : Cond.instanceMethod ⟨"DearLettersModel", "oddsIn", "()J"⟩ ∈ z_tbl := z_tbl_in (List.mem_of_getElem? (i := 2060) (by decide +kernel)) rfl
theorem w_2061 : Cond.code ⟨"DearLettersModel", "oddsIn", "()J"⟩ prog_14_method_87_code 6 (Option.some FieldType.long) ∈ z_tbl := z_tbl_in (List.mem_of_getElem? (i := 2061) (by decide +kernel)) rfl
theorem w_2062 : Cond.methodLink "DearLettersModel" 557 ⟨"DearLettersModel", "isNextGroups", "()Z"⟩ ∈ z_tbl := z_tbl_in (List.mem_of_getElem? (i := 2062) (by decide +kernel)) rfl
theorem w_2064 : Cond.instanceMethod ⟨"DearLettersModel", "isNextGroups", "()Z"⟩ ∈ z_tbl := z_tbl_in (List.mem_of_getElem? (i := 2064) (by decide +kernel)) rfl
theorem w_2065 : Cond.code ⟨"DearLettersModel", "isNextGroups", "()Z"⟩ prog_14_method_86_code 4 (Option.some FieldType.boolean) ∈ z_tbl := z_tbl_in (List.mem_of_getElem? (i := 2065) (by decide +kernel)) rfl
theorem w_2070 : Cond.methodLink "DearLettersModel" 560 ⟨"DearLettersModel", "refuses", "(I)I"⟩ ∈ z_tbl := z_tbl_in (List.mem_of_getElem? (i := 2070) (by decide +kernel)) rfl
theorem w_2072 : Cond.instanceMethod ⟨"DearLettersModel", "refuses", "(I)I"⟩ ∈ z_tbl := z_tbl_in (List.mem_of_getElem? (i := 2072) (by decide +kernel)) rfl
theorem w_2073 : Cond.code ⟨"DearLettersModel", "refuses", "(I)I"⟩ prog_14_method_89_code 2 (Option.some FieldType.int) ∈ z_tbl := z_tbl_in (List.mem_of_getElem? (i := 2073) (by decide +kernel)) rfl
theorem w_2075 : Cond.instanceMethod ⟨"DearLettersModel", "whose", "()I"⟩ ∈ z_tbl := z_tbl_in (List.mem_of_getElem? (i := 2075) (by decide +kernel)) rfl
theorem w_2076 : Cond.selects "DearLettersModel" ⟨"DearLettersModel", "whose", "()I"⟩ ⟨"DearLettersModel", "whose", "()I"⟩ ∈ z_tbl := z_tbl_in (List.mem_of_getElem? (i := 2076) (by decide +kernel)) rfl
theorem w_2077 : Cond.code ⟨"DearLettersModel", "whose", "()I"⟩ prog_14_method_92_code 3 (Option.some FieldType.int) ∈ z_tbl := z_tbl_in (List.mem_of_getElem? (i := 2077) (by decide +kernel)) rfl
theorem w_2078 : Cond.methodLink "DearLettersModel" 563 ⟨"DearLettersModel", "isAsTold", "(I)Z"⟩ ∈ z_tbl := z_tbl_in (List.mem_of_getElem? (i := 2078) (by decide +kernel)) rfl
theorem w_2080 : Cond.instanceMethod ⟨"DearLettersModel", "isAsTold", "(I)Z"⟩ ∈ z_tbl := z_tbl_in (List.mem_of_getElem? (i := 2080) (by decide +kernel)) rfl
theorem w_2081 : Cond.code ⟨"DearLettersModel", "isAsTold", "(I)Z"⟩ prog_14_method_91_code 3 (Option.some FieldType.boolean) ∈ z_tbl := z_tbl_in (List.mem_of_getElem? (i := 2081) (by decide +kernel)) rfl
theorem w_2086 : Cond.methodLink "DearLettersModel" 566 ⟨"DearLettersModel", "whose", "()I"⟩ ∈ z_tbl := z_tbl_in (List.mem_of_getElem? (i := 2086) (by decide +kernel)) rfl
theorem w_2087 : Cond.methodLink "DearLettersModel" 569 ⟨"DearLettersModel", "mostAlike", "(II)I"⟩ ∈ z_tbl := z_tbl_in (List.mem_of_getElem? (i := 2087) (by decide +kernel)) rfl
theorem w_2089 : Cond.instanceMethod ⟨"DearLettersModel", "mostAlike", "(II)I"⟩ ∈ z_tbl := z_tbl_in (List.mem_of_getElem? (i := 2089) (by decide +kernel)) rfl
theorem w_2090 : Cond.code ⟨"DearLettersModel", "mostAlike", "(II)I"⟩ prog_14_method_93_code 7 (Option.some FieldType.int) ∈ z_tbl := z_tbl_in (List.mem_of_getElem? (i := 2090) (by decide +kernel)) rfl
theorem w_2099 : Cond.methodLink "DearLettersModel" 575 ⟨"DearLettersModel", "keeps", "()V"⟩ ∈ z_tbl := z_tbl_in (List.mem_of_getElem? (i := 2099) (by decide +kernel)) rfl
theorem w_2101 : Cond.instanceMethod ⟨"DearLettersModel", "keeps", "()V"⟩ ∈ z_tbl := z_tbl_in (List.mem_of_getElem? (i := 2101) (by decide +kernel)) rfl
theorem w_2102 : Cond.code ⟨"DearLettersModel", "keeps", "()V"⟩ prog_14_method_95_code 2 none ∈ z_tbl := z_tbl_in (List.mem_of_getElem? (i := 2102) (by decide +kernel)) rfl
theorem w_2107 : Cond.constantLong "DearLettersModel" 578 (4) ∈ z_tbl := z_tbl_in (List.mem_of_getElem? (i := 2107) (by decide +kernel)) rfl
theorem w_2108 : Cond.methodLink "DearLettersModel" 580 ⟨"DearLettersModel", "isSheetNear", "(II)Z"⟩ ∈ z_tbl := z_tbl_in (List.mem_of_getElem? (i := 2108) (by decide +kernel)) rfl
theorem w_2110 : Cond.instanceMethod ⟨"DearLettersModel", "isSheetNear", "(II)Z"⟩ ∈ z_tbl := z_tbl_in (List.mem_of_getElem? (i := 2110) (by decide +kernel)) rfl
theorem w_2111 : Cond.code ⟨"DearLettersModel", "isSheetNear", "(II)Z"⟩ prog_14_method_98_code 4 (Option.some FieldType.boolean) ∈ z_tbl := z_tbl_in (List.mem_of_getElem? (i := 2111) (by decide +kernel)) rfl
theorem w_2128 : Cond.methodLink "DearLettersModel" 591 ⟨"DearLettersModel", "drawOf", "(I)I"⟩ ∈ z_tbl := z_tbl_in (List.mem_of_getElem? (i := 2128) (by decide +kernel)) rfl
theorem w_2130 : Cond.instanceMethod ⟨"DearLettersModel", "drawOf", "(I)I"⟩ ∈ z_tbl := z_tbl_in (List.mem_of_getElem? (i := 2130) (by decide +kernel)) rfl
theorem w_2131 : Cond.code ⟨"DearLettersModel", "drawOf", "(I)I"⟩ prog_14_method_103_code 2 (Option.some FieldType.int) ∈ z_tbl := z_tbl_in (List.mem_of_getElem? (i := 2131) (by decide +kernel)) rfl
theorem w_2132 : Cond.constantLong "DearLettersModel" 583 (1103515245) ∈ z_tbl := z_tbl_in (List.mem_of_getElem? (i := 2132) (by decide +kernel)) rfl
theorem w_2133 : Cond.constantLong "DearLettersModel" 585 (12345) ∈ z_tbl := z_tbl_in (List.mem_of_getElem? (i := 2133) (by decide +kernel)) rfl
theorem w_2134 : Cond.constantLong "DearLettersModel" 587 (2147483648) ∈ z_tbl := z_tbl_in (List.mem_of_getElem? (i := 2134) (by decide +kernel)) rfl
theorem w_2135 : Cond.constantLong "DearLettersModel" 589 (64) ∈ z_tbl := z_tbl_in (List.mem_of_getElem? (i := 2135) (by decide +kernel)) rfl
theorem w_2140 : Cond.methodLink "DearLettersModel" 672 ⟨"DearLettersModel", "qKind", "()I"⟩ ∈ z_tbl := z_tbl_in (List.mem_of_getElem? (i := 2140) (by decide +kernel)) rfl
theorem w_2142 : Cond.instanceMethod ⟨"DearLettersModel", "qKind", "()I"⟩ ∈ z_tbl := z_tbl_in (List.mem_of_getElem? (i := 2142) (by decide +kernel)) rfl
theorem w_2143 : Cond.code ⟨"DearLettersModel", "qKind", "()I"⟩ prog_14_method_131_code 2 (Option.some FieldType.int) ∈ z_tbl := z_tbl_in (List.mem_of_getElem? (i := 2143) (by decide +kernel)) rfl
theorem w_2144 : Cond.methodLink "DearLettersModel" 675 ⟨"DearLettersModel", "qTest", "()V"⟩ ∈ z_tbl := z_tbl_in (List.mem_of_getElem? (i := 2144) (by decide +kernel)) rfl
theorem w_2146 : Cond.instanceMethod ⟨"DearLettersModel", "qTest", "()V"⟩ ∈ z_tbl := z_tbl_in (List.mem_of_getElem? (i := 2146) (by decide +kernel)) rfl
theorem w_2147 : Cond.code ⟨"DearLettersModel", "qTest", "()V"⟩ prog_14_method_122_code 3 none ∈ z_tbl := z_tbl_in (List.mem_of_getElem? (i := 2147) (by decide +kernel)) rfl
theorem w_2148 : Cond.methodLink "DearLettersModel" 636 ⟨"DearLettersModel", "qFact", "()V"⟩ ∈ z_tbl := z_tbl_in (List.mem_of_getElem? (i := 2148) (by decide +kernel)) rfl
theorem w_2150 : Cond.instanceMethod ⟨"DearLettersModel", "qFact", "()V"⟩ ∈ z_tbl := z_tbl_in (List.mem_of_getElem? (i := 2150) (by decide +kernel)) rfl
theorem w_2151 : Cond.code ⟨"DearLettersModel", "qFact", "()V"⟩ prog_14_method_119_code 2 none ∈ z_tbl := z_tbl_in (List.mem_of_getElem? (i := 2151) (by decide +kernel)) rfl
theorem w_2152 : Cond.methodLink "DearLettersModel" 639 ⟨"DearLettersModel", "qDropsNots", "()V"⟩ ∈ z_tbl := z_tbl_in (List.mem_of_getElem? (i := 2152) (by decide +kernel)) rfl
theorem w_2154 : Cond.instanceMethod ⟨"DearLettersModel", "qDropsNots", "()V"⟩ ∈ z_tbl := z_tbl_in (List.mem_of_getElem? (i := 2154) (by decide +kernel)) rfl
theorem w_2155 : Cond.code ⟨"DearLettersModel", "qDropsNots", "()V"⟩ prog_14_method_121_code 1 none ∈ z_tbl := z_tbl_in (List.mem_of_getElem? (i := 2155) (by decide +kernel)) rfl
theorem w_2156 : Cond.methodLink "DearLettersModel" 642 ⟨"DearLettersModel", "qGoesOnTest", "()Z"⟩ ∈ z_tbl := z_tbl_in (List.mem_of_getElem? (i := 2156) (by decide +kernel)) rfl
theorem w_2158 : Cond.instanceMethod ⟨"DearLettersModel", "qGoesOnTest", "()Z"⟩ ∈ z_tbl := z_tbl_in (List.mem_of_getElem? (i := 2158) (by decide +kernel)) rfl
theorem w_2159 : Cond.code ⟨"DearLettersModel", "qGoesOnTest", "()Z"⟩ prog_14_method_123_code 1 (Option.some FieldType.boolean) ∈ z_tbl := z_tbl_in (List.mem_of_getElem? (i := 2159) (by decide +kernel)) rfl
theorem w_2160 : Cond.methodLink "DearLettersModel" 645 ⟨"DearLettersModel", "qHasSquare", "()Z"⟩ ∈ z_tbl := z_tbl_in (List.mem_of_getElem? (i := 2160) (by decide +kernel)) rfl
theorem w_2162 : Cond.instanceMethod ⟨"DearLettersModel", "qHasSquare", "()Z"⟩ ∈ z_tbl := z_tbl_in (List.mem_of_getElem? (i := 2162) (by decide +kernel)) rfl
theorem w_2163 : Cond.code ⟨"DearLettersModel", "qHasSquare", "()Z"⟩ prog_14_method_120_code 2 (Option.some FieldType.boolean) ∈ z_tbl := z_tbl_in (List.mem_of_getElem? (i := 2163) (by decide +kernel)) rfl
theorem w_2164 : Cond.constantLong "DearLettersModel" 667 (-1) ∈ z_tbl := z_tbl_in (List.mem_of_getElem? (i := 2164) (by decide +kernel)) rfl
theorem w_2165 : Cond.methodLink "DearLettersModel" 678 ⟨"DearLettersModel", "qTold", "(I)J"⟩ ∈ z_tbl := z_tbl_in (List.mem_of_getElem? (i := 2165) (by decide +kernel)) rfl
theorem w_2167 : Cond.instanceMethod ⟨"DearLettersModel", "qTold", "(I)J"⟩ ∈ z_tbl := z_tbl_in (List.mem_of_getElem? (i := 2167) (by decide +kernel)) rfl
theorem w_2168 : Cond.code ⟨"DearLettersModel", "qTold", "(I)J"⟩ prog_14_method_130_code 4 (Option.some FieldType.long) ∈ z_tbl := z_tbl_in (List.mem_of_getElem? (i := 2168) (by decide +kernel)) rfl
theorem w_2169 : Cond.methodLink "DearLettersModel" 660 ⟨"DearLettersModel", "qOf", "(IJI)J"⟩ ∈ z_tbl := z_tbl_in (List.mem_of_getElem? (i := 2169) (by decide +kernel)) rfl
theorem w_2171 : Cond.instanceMethod ⟨"DearLettersModel", "qOf", "(IJI)J"⟩ ∈ z_tbl := z_tbl_in (List.mem_of_getElem? (i := 2171) (by decide +kernel)) rfl
theorem w_2172 : Cond.code ⟨"DearLettersModel", "qOf", "(IJI)J"⟩ prog_14_method_129_code 5 (Option.some FieldType.long) ∈ z_tbl := z_tbl_in (List.mem_of_getElem? (i := 2172) (by decide +kernel)) rfl
theorem w_2173 : Cond.methodLink "DearLettersModel" 682 ⟨"DearLettersModel", "qTakes", "(IJI)V"⟩ ∈ z_tbl := z_tbl_in (List.mem_of_getElem? (i := 2173) (by decide +kernel)) rfl
theorem w_2175 : Cond.instanceMethod ⟨"DearLettersModel", "qTakes", "(IJI)V"⟩ ∈ z_tbl := z_tbl_in (List.mem_of_getElem? (i := 2175) (by decide +kernel)) rfl
theorem w_2176 : Cond.code ⟨"DearLettersModel", "qTakes", "(IJI)V"⟩ prog_14_method_132_code 6 none ∈ z_tbl := z_tbl_in (List.mem_of_getElem? (i := 2176) (by decide +kernel)) rfl
theorem w_2181 : Cond.methodLink "DearLettersModel" 689 ⟨"DearLettersModel", "writes", "(I)V"⟩ ∈ z_tbl := z_tbl_in (List.mem_of_getElem? (i := 2181) (by decide +kernel)) rfl
theorem w_2183 : Cond.instanceMethod ⟨"DearLettersModel", "writes", "(I)V"⟩ ∈ z_tbl := z_tbl_in (List.mem_of_getElem? (i := 2183) (by decide +kernel)) rfl
theorem w_2184 : Cond.code ⟨"DearLettersModel", "writes", "(I)V"⟩ prog_14_method_135_code 2 none ∈ z_tbl := z_tbl_in (List.mem_of_getElem? (i := 2184) (by decide +kernel)) rfl
theorem w_2185 : Cond.methodLink "DearLettersModel" 692 ⟨"DearLettersModel", "checked", "([II)I"⟩ ∈ z_tbl := z_tbl_in (List.mem_of_getElem? (i := 2185) (by decide +kernel)) rfl
theorem w_2186 : Cond.static ⟨"DearLettersModel", "checked", "([II)I"⟩ ∈ z_tbl := z_tbl_in (List.mem_of_getElem? (i := 2186) (by decide +kernel)) rfl
theorem w_2187 : Cond.code ⟨"DearLettersModel", "checked", "([II)I"⟩ prog_14_method_134_code 4 (Option.some FieldType.int) ∈ z_tbl := z_tbl_in (List.mem_of_getElem? (i := 2187) (by decide +kernel)) rfl
theorem w_2196 : Cond.methodLink "DearLettersModel" 699 ⟨"DearLettersModel", "isImage", "(I)Z"⟩ ∈ z_tbl := z_tbl_in (List.mem_of_getElem? (i := 2196) (by decide +kernel)) rfl
theorem w_2198 : Cond.instanceMethod ⟨"DearLettersModel", "isImage", "(I)Z"⟩ ∈ z_tbl := z_tbl_in (List.mem_of_getElem? (i := 2198) (by decide +kernel)) rfl
theorem w_2199 : Cond.code ⟨"DearLettersModel", "isImage", "(I)Z"⟩ prog_14_method_139_code 5 (Option.some FieldType.boolean) ∈ z_tbl := z_tbl_in (List.mem_of_getElem? (i := 2199) (by decide +kernel)) rfl
theorem w_2200 : Cond.methodLink "DearLettersModel" 696 ⟨"DearLettersModel", "areLettersTold", "(I)Z"⟩ ∈ z_tbl := z_tbl_in (List.mem_of_getElem? (i := 2200) (by decide +kernel)) rfl
theorem w_2202 : Cond.instanceMethod ⟨"DearLettersModel", "areLettersTold", "(I)Z"⟩ ∈ z_tbl := z_tbl_in (List.mem_of_getElem? (i := 2202) (by decide +kernel)) rfl
theorem w_2203 : Cond.code ⟨"DearLettersModel", "areLettersTold", "(I)Z"⟩ prog_14_method_138_code 5 (Option.some FieldType.boolean) ∈ z_tbl := z_tbl_in (List.mem_of_getElem? (i := 2203) (by decide +kernel)) rfl
