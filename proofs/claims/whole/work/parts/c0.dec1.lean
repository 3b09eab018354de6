theorem dX12_init_642 : decode cX12_init 642 = .ok (.bipush 104, 2) := by decide +kernel
theorem dX12_init_644 : decode cX12_init 644 = .ok (.castore, 1) := by decide +kernel
theorem dX12_init_645 : decode cX12_init 645 = .ok (.dup, 1) := by decide +kernel
theorem dX12_init_646 : decode cX12_init 646 = .ok (.iconst 2, 1) := by decide +kernel
theorem dX12_init_647 : decode cX12_init 647 = .ok (.bipush 101, 2) := by decide +kernel
theorem dX12_init_649 : decode cX12_init 649 = .ok (.castore, 1) := by decide +kernel
theorem dX12_init_650 : decode cX12_init 650 = .ok (.dup, 1) := by decide +kernel
theorem dX12_init_651 : decode cX12_init 651 = .ok (.iconst 3, 1) := by decide +kernel
theorem dX12_init_652 : decode cX12_init 652 = .ok (.bipush 101, 2) := by decide +kernel
theorem dX12_init_654 : decode cX12_init 654 = .ok (.castore, 1) := by decide +kernel
theorem dX12_init_655 : decode cX12_init 655 = .ok (.dup, 1) := by decide +kernel
theorem dX12_init_656 : decode cX12_init 656 = .ok (.iconst 4, 1) := by decide +kernel
theorem dX12_init_657 : decode cX12_init 657 = .ok (.bipush 116, 2) := by decide +kernel
theorem dX12_init_659 : decode cX12_init 659 = .ok (.castore, 1) := by decide +kernel
theorem dX12_init_660 : decode cX12_init 660 = .ok (.putfield 81, 3) := by decide +kernel
theorem dX12_init_663 : decode cX12_init 663 = .ok (.aload_n 0, 1) := by decide +kernel
theorem dX12_init_664 : decode cX12_init 664 = .ok (.iconst 4, 1) := by decide +kernel
theorem dX12_init_665 : decode cX12_init 665 = .ok (.newarray .char, 2) := by decide +kernel
theorem dX12_init_667 : decode cX12_init 667 = .ok (.dup, 1) := by decide +kernel
theorem dX12_init_668 : decode cX12_init 668 = .ok (.iconst 0, 1) := by decide +kernel
theorem dX12_init_669 : decode cX12_init 669 = .ok (.bipush 100, 2) := by decide +kernel
theorem dX12_init_671 : decode cX12_init 671 = .ok (.castore, 1) := by decide +kernel
theorem dX12_init_672 : decode cX12_init 672 = .ok (.dup, 1) := by decide +kernel
theorem dX12_init_673 : decode cX12_init 673 = .ok (.iconst 1, 1) := by decide +kernel
theorem dX12_init_674 : decode cX12_init 674 = .ok (.bipush 111, 2) := by decide +kernel
theorem dX12_init_676 : decode cX12_init 676 = .ok (.castore, 1) := by decide +kernel
theorem dX12_init_677 : decode cX12_init 677 = .ok (.dup, 1) := by decide +kernel
theorem dX12_init_678 : decode cX12_init 678 = .ok (.iconst 2, 1) := by decide +kernel
theorem dX12_init_679 : decode cX12_init 679 = .ok (.bipush 110, 2) := by decide +kernel
theorem dX12_init_681 : decode cX12_init 681 = .ok (.castore, 1) := by decide +kernel
theorem dX12_init_682 : decode cX12_init 682 = .ok (.dup, 1) := by decide +kernel
theorem dX12_init_683 : decode cX12_init 683 = .ok (.iconst 3, 1) := by decide +kernel
theorem dX12_init_684 : decode cX12_init 684 = .ok (.bipush 101, 2) := by decide +kernel
theorem dX12_init_686 : decode cX12_init 686 = .ok (.castore, 1) := by decide +kernel
theorem dX12_init_687 : decode cX12_init 687 = .ok (.putfield 84, 3) := by decide +kernel
theorem dX12_init_690 : decode cX12_init 690 = .ok (.aload_n 0, 1) := by decide +kernel
theorem dX12_init_691 : decode cX12_init 691 = .ok (.iconst 2, 1) := by decide +kernel
theorem dX12_init_692 : decode cX12_init 692 = .ok (.newarray .char, 2) := by decide +kernel
theorem dX12_init_694 : decode cX12_init 694 = .ok (.dup, 1) := by decide +kernel
theorem dX12_init_695 : decode cX12_init 695 = .ok (.iconst 0, 1) := by decide +kernel
theorem dX12_init_696 : decode cX12_init 696 = .ok (.bipush 111, 2) := by decide +kernel
theorem dX12_init_698 : decode cX12_init 698 = .ok (.castore, 1) := by decide +kernel
theorem dX12_init_699 : decode cX12_init 699 = .ok (.dup, 1) := by decide +kernel
theorem dX12_init_700 : decode cX12_init 700 = .ok (.iconst 1, 1) := by decide +kernel
theorem dX12_init_701 : decode cX12_init 701 = .ok (.bipush 114, 2) := by decide +kernel
theorem dX12_init_703 : decode cX12_init 703 = .ok (.castore, 1) := by decide +kernel
theorem dX12_init_704 : decode cX12_init 704 = .ok (.putfield 87, 3) := by decide +kernel
theorem dX12_init_707 : decode cX12_init 707 = .ok (.aload_n 0, 1) := by decide +kernel
theorem dX12_init_708 : decode cX12_init 708 = .ok (.iconst 3, 1) := by decide +kernel
theorem dX12_init_709 : decode cX12_init 709 = .ok (.newarray .char, 2) := by decide +kernel
theorem dX12_init_711 : decode cX12_init 711 = .ok (.dup, 1) := by decide +kernel
theorem dX12_init_712 : decode cX12_init 712 = .ok (.iconst 0, 1) := by decide +kernel
theorem dX12_init_713 : decode cX12_init 713 = .ok (.bipush 97, 2) := by decide +kernel
theorem dX12_init_715 : decode cX12_init 715 = .ok (.castore, 1) := by decide +kernel
theorem dX12_init_716 : decode cX12_init 716 = .ok (.dup, 1) := by decide +kernel
theorem dX12_init_717 : decode cX12_init 717 = .ok (.iconst 1, 1) := by decide +kernel
theorem dX12_init_718 : decode cX12_init 718 = .ok (.bipush 110, 2) := by decide +kernel
theorem dX12_init_720 : decode cX12_init 720 = .ok (.castore, 1) := by decide +kernel
theorem dX12_init_721 : decode cX12_init 721 = .ok (.dup, 1) := by decide +kernel
theorem dX12_init_722 : decode cX12_init 722 = .ok (.iconst 2, 1) := by decide +kernel
theorem dX12_init_723 : decode cX12_init 723 = .ok (.bipush 100, 2) := by decide +kernel
theorem dX12_init_725 : decode cX12_init 725 = .ok (.castore, 1) := by decide +kernel
theorem dX12_init_726 : decode cX12_init 726 = .ok (.putfield 90, 3) := by decide +kernel
theorem dX12_init_729 : decode cX12_init 729 = .ok (.aload_n 0, 1) := by decide +kernel
theorem dX12_init_730 : decode cX12_init 730 = .ok (.iconst 3, 1) := by decide +kernel
theorem dX12_init_731 : decode cX12_init 731 = .ok (.newarray .char, 2) := by decide +kernel
theorem dX12_init_733 : decode cX12_init 733 = .ok (.dup, 1) := by decide +kernel
theorem dX12_init_734 : decode cX12_init 734 = .ok (.iconst 0, 1) := by decide +kernel
theorem dX12_init_735 : decode cX12_init 735 = .ok (.bipush 110, 2) := by decide +kernel
theorem dX12_init_737 : decode cX12_init 737 = .ok (.castore, 1) := by decide +kernel
theorem dX12_init_738 : decode cX12_init 738 = .ok (.dup, 1) := by decide +kernel
theorem dX12_init_739 : decode cX12_init 739 = .ok (.iconst 1, 1) := by decide +kernel
theorem dX12_init_740 : decode cX12_init 740 = .ok (.bipush 111, 2) := by decide +kernel
theorem dX12_init_742 : decode cX12_init 742 = .ok (.castore, 1) := by decide +kernel
theorem dX12_init_743 : decode cX12_init 743 = .ok (.dup, 1) := by decide +kernel
theorem dX12_init_744 : decode cX12_init 744 = .ok (.iconst 2, 1) := by decide +kernel
theorem dX12_init_745 : decode cX12_init 745 = .ok (.bipush 116, 2) := by decide +kernel
theorem dX12_init_747 : decode cX12_init 747 = .ok (.castore, 1) := by decide +kernel
theorem dX12_init_748 : decode cX12_init 748 = .ok (.putfield 93, 3) := by decide +kernel
theorem dX12_init_751 : decode cX12_init 751 = .ok (.aload_n 0, 1) := by decide +kernel
theorem dX12_init_752 : decode cX12_init 752 = .ok (.iconst 3, 1) := by decide +kernel
theorem dX12_init_753 : decode cX12_init 753 = .ok (.newarray .char, 2) := by decide +kernel
theorem dX12_init_755 : decode cX12_init 755 = .ok (.dup, 1) := by decide +kernel
theorem dX12_init_756 : decode cX12_init 756 = .ok (.iconst 0, 1) := by decide +kernel
theorem dX12_init_757 : decode cX12_init 757 = .ok (.bipush 97, 2) := by decide +kernel
theorem dX12_init_759 : decode cX12_init 759 = .ok (.castore, 1) := by decide +kernel
theorem dX12_init_760 : decode cX12_init 760 = .ok (.dup, 1) := by decide +kernel
theorem dX12_init_761 : decode cX12_init 761 = .ok (.iconst 1, 1) := by decide +kernel
theorem dX12_init_762 : decode cX12_init 762 = .ok (.bipush 108, 2) := by decide +kernel
theorem dX12_init_764 : decode cX12_init 764 = .ok (.castore, 1) := by decide +kernel
theorem dX12_init_765 : decode cX12_init 765 = .ok (.dup, 1) := by decide +kernel
theorem dX12_init_766 : decode cX12_init 766 = .ok (.iconst 2, 1) := by decide +kernel
theorem dX12_init_767 : decode cX12_init 767 = .ok (.bipush 108, 2) := by decide +kernel
theorem dX12_init_769 : decode cX12_init 769 = .ok (.castore, 1) := by decide +kernel
theorem dX12_init_770 : decode cX12_init 770 = .ok (.putfield 96, 3) := by decide +kernel
theorem dX12_init_773 : decode cX12_init 773 = .ok (.aload_n 0, 1) := by decide +kernel
theorem dX12_init_774 : decode cX12_init 774 = .ok (.iconst 3, 1) := by decide +kernel
theorem dX12_init_775 : decode cX12_init 775 = .ok (.newarray .char, 2) := by decide +kernel
theorem dX12_init_777 : decode cX12_init 777 = .ok (.dup, 1) := by decide +kernel
theorem dX12_init_778 : decode cX12_init 778 = .ok (.iconst 0, 1) := by decide +kernel
theorem dX12_init_779 : decode cX12_init 779 = .ok (.bipush 109, 2) := by decide +kernel
theorem dX12_init_781 : decode cX12_init 781 = .ok (.castore, 1) := by decide +kernel
theorem dX12_init_782 : decode cX12_init 782 = .ok (.dup, 1) := by decide +kernel
theorem dX12_init_783 : decode cX12_init 783 = .ok (.iconst 1, 1) := by decide +kernel
theorem dX12_init_784 : decode cX12_init 784 = .ok (.bipush 105, 2) := by decide +kernel
theorem dX12_init_786 : decode cX12_init 786 = .ok (.castore, 1) := by decide +kernel
theorem dX12_init_787 : decode cX12_init 787 = .ok (.dup, 1) := by decide +kernel
theorem dX12_init_788 : decode cX12_init 788 = .ok (.iconst 2, 1) := by decide +kernel
theorem dX12_init_789 : decode cX12_init 789 = .ok (.bipush 110, 2) := by decide +kernel
theorem dX12_init_791 : decode cX12_init 791 = .ok (.castore, 1) := by decide +kernel
theorem dX12_init_792 : decode cX12_init 792 = .ok (.putfield 99, 3) := by decide +kernel
theorem dX12_init_795 : decode cX12_init 795 = .ok (.aload_n 0, 1) := by decide +kernel
theorem dX12_init_796 : decode cX12_init 796 = .ok (.iconst 3, 1) := by decide +kernel
theorem dX12_init_797 : decode cX12_init 797 = .ok (.newarray .char, 2) := by decide +kernel
theorem dX12_init_799 : decode cX12_init 799 = .ok (.dup, 1) := by decide +kernel
theorem dX12_init_800 : decode cX12_init 800 = .ok (.iconst 0, 1) := by decide +kernel
theorem dX12_init_801 : decode cX12_init 801 = .ok (.bipush 109, 2) := by decide +kernel
theorem dX12_init_803 : decode cX12_init 803 = .ok (.castore, 1) := by decide +kernel
theorem dX12_init_804 : decode cX12_init 804 = .ok (.dup, 1) := by decide +kernel
theorem dX12_init_805 : decode cX12_init 805 = .ok (.iconst 1, 1) := by decide +kernel
theorem dX12_init_806 : decode cX12_init 806 = .ok (.bipush 97, 2) := by decide +kernel
theorem dX12_init_808 : decode cX12_init 808 = .ok (.castore, 1) := by decide +kernel
theorem dX12_init_809 : decode cX12_init 809 = .ok (.dup, 1) := by decide +kernel
theorem dX12_init_810 : decode cX12_init 810 = .ok (.iconst 2, 1) := by decide +kernel
theorem dX12_init_811 : decode cX12_init 811 = .ok (.bipush 120, 2) := by decide +kernel
theorem dX12_init_813 : decode cX12_init 813 = .ok (.castore, 1) := by decide +kernel
theorem dX12_init_814 : decode cX12_init 814 = .ok (.putfield 102, 3) := by decide +kernel
theorem dX12_init_817 : decode cX12_init 817 = .ok (.aload_n 0, 1) := by decide +kernel
theorem dX12_init_818 : decode cX12_init 818 = .ok (.bipush 10, 2) := by decide +kernel
theorem dX12_init_820 : decode cX12_init 820 = .ok (.newarray .int, 2) := by decide +kernel
theorem dX12_init_822 : decode cX12_init 822 = .ok (.putfield 105, 3) := by decide +kernel
theorem dX12_init_825 : decode cX12_init 825 = .ok (.aload_n 0, 1) := by decide +kernel
theorem dX12_init_826 : decode cX12_init 826 = .ok (.bipush 48, 2) := by decide +kernel
theorem dX12_init_828 : decode cX12_init 828 = .ok (.newarray .long, 2) := by decide +kernel
theorem dX12_init_830 : decode cX12_init 830 = .ok (.putfield 108, 3) := by decide +kernel
theorem dX12_init_833 : decode cX12_init 833 = .ok (.aload_n 0, 1) := by decide +kernel
theorem dX12_init_834 : decode cX12_init 834 = .ok (.bipush 48, 2) := by decide +kernel
theorem dX12_init_836 : decode cX12_init 836 = .ok (.newarray .int, 2) := by decide +kernel
theorem dX12_init_838 : decode cX12_init 838 = .ok (.putfield 112, 3) := by decide +kernel
theorem dX12_init_841 : decode cX12_init 841 = .ok (.aload_n 0, 1) := by decide +kernel
theorem dX12_init_842 : decode cX12_init 842 = .ok (.bipush 8, 2) := by decide +kernel
theorem dX12_init_844 : decode cX12_init 844 = .ok (.newarray .int, 2) := by decide +kernel
theorem dX12_init_846 : decode cX12_init 846 = .ok (.putfield 115, 3) := by decide +kernel
theorem dX12_init_849 : decode cX12_init 849 = .ok (.aload_n 0, 1) := by decide +kernel
theorem dX12_init_850 : decode cX12_init 850 = .ok (.bipush 64, 2) := by decide +kernel
theorem dX12_init_852 : decode cX12_init 852 = .ok (.newarray .int, 2) := by decide +kernel
theorem dX12_init_854 : decode cX12_init 854 = .ok (.putfield 118, 3) := by decide +kernel
theorem dX12_init_857 : decode cX12_init 857 = .ok (.aload_n 0, 1) := by decide +kernel
theorem dX12_init_858 : decode cX12_init 858 = .ok (.bipush 16, 2) := by decide +kernel
theorem dX12_init_860 : decode cX12_init 860 = .ok (.newarray .int, 2) := by decide +kernel
theorem dX12_init_862 : decode cX12_init 862 = .ok (.putfield 121, 3) := by decide +kernel
theorem dX12_init_865 : decode cX12_init 865 = .ok (.aload_n 0, 1) := by decide +kernel
theorem dX12_init_866 : decode cX12_init 866 = .ok (.sipush 128, 3) := by decide +kernel
theorem dX12_init_869 : decode cX12_init 869 = .ok (.newarray .int, 2) := by decide +kernel
theorem dX12_init_871 : decode cX12_init 871 = .ok (.putfield 124, 3) := by decide +kernel
theorem dX12_init_874 : decode cX12_init 874 = .ok (.aload_n 0, 1) := by decide +kernel
theorem dX12_init_875 : decode cX12_init 875 = .ok (.bipush 18, 2) := by decide +kernel
theorem dX12_init_877 : decode cX12_init 877 = .ok (.newarray .int, 2) := by decide +kernel
theorem dX12_init_879 : decode cX12_init 879 = .ok (.putfield 127, 3) := by decide +kernel
theorem dX12_init_882 : decode cX12_init 882 = .ok (.aload_n 0, 1) := by decide +kernel
theorem dX12_init_883 : decode cX12_init 883 = .ok (.iconst 4, 1) := by decide +kernel
theorem dX12_init_884 : decode cX12_init 884 = .ok (.newarray .int, 2) := by decide +kernel
theorem dX12_init_886 : decode cX12_init 886 = .ok (.dup, 1) := by decide +kernel
theorem dX12_init_887 : decode cX12_init 887 = .ok (.iconst 0, 1) := by decide +kernel
theorem dX12_init_888 : decode cX12_init 888 = .ok (.iconst 3, 1) := by decide +kernel
theorem dX12_init_889 : decode cX12_init 889 = .ok (.iastore, 1) := by decide +kernel
theorem dX12_init_890 : decode cX12_init 890 = .ok (.dup, 1) := by decide +kernel
theorem dX12_init_891 : decode cX12_init 891 = .ok (.iconst 1, 1) := by decide +kernel
theorem dX12_init_892 : decode cX12_init 892 = .ok (.iconst 0, 1) := by decide +kernel
theorem dX12_init_893 : decode cX12_init 893 = .ok (.iastore, 1) := by decide +kernel
theorem dX12_init_894 : decode cX12_init 894 = .ok (.dup, 1) := by decide +kernel
theorem dX12_init_895 : decode cX12_init 895 = .ok (.iconst 2, 1) := by decide +kernel
theorem dX12_init_896 : decode cX12_init 896 = .ok (.iconst 3, 1) := by decide +kernel
theorem dX12_init_897 : decode cX12_init 897 = .ok (.iastore, 1) := by decide +kernel
theorem dX12_init_898 : decode cX12_init 898 = .ok (.dup, 1) := by decide +kernel
theorem dX12_init_899 : decode cX12_init 899 = .ok (.iconst 3, 1) := by decide +kernel
theorem dX12_init_900 : decode cX12_init 900 = .ok (.iconst 0, 1) := by decide +kernel
theorem dX12_init_901 : decode cX12_init 901 = .ok (.iastore, 1) := by decide +kernel
theorem dX12_init_902 : decode cX12_init 902 = .ok (.putfield 130, 3) := by decide +kernel
theorem dX12_init_905 : decode cX12_init 905 = .ok (.aload_n 0, 1) := by decide +kernel
theorem dX12_init_906 : decode cX12_init 906 = .ok (.iconst 4, 1) := by decide +kernel
theorem dX12_init_907 : decode cX12_init 907 = .ok (.newarray .int, 2) := by decide +kernel
theorem dX12_init_909 : decode cX12_init 909 = .ok (.dup, 1) := by decide +kernel
theorem dX12_init_910 : decode cX12_init 910 = .ok (.iconst 0, 1) := by decide +kernel
theorem dX12_init_911 : decode cX12_init 911 = .ok (.iconst (-1), 1) := by decide +kernel
theorem dX12_init_912 : decode cX12_init 912 = .ok (.iastore, 1) := by decide +kernel
theorem dX12_init_913 : decode cX12_init 913 = .ok (.dup, 1) := by decide +kernel
theorem dX12_init_914 : decode cX12_init 914 = .ok (.iconst 1, 1) := by decide +kernel
theorem dX12_init_915 : decode cX12_init 915 = .ok (.iconst (-1), 1) := by decide +kernel
theorem dX12_init_916 : decode cX12_init 916 = .ok (.iastore, 1) := by decide +kernel
theorem dX12_init_917 : decode cX12_init 917 = .ok (.dup, 1) := by decide +kernel
theorem dX12_init_918 : decode cX12_init 918 = .ok (.iconst 2, 1) := by decide +kernel
theorem dX12_init_919 : decode cX12_init 919 = .ok (.iconst (-1), 1) := by decide +kernel
theorem dX12_init_920 : decode cX12_init 920 = .ok (.iastore, 1) := by decide +kernel
theorem dX12_init_921 : decode cX12_init 921 = .ok (.dup, 1) := by decide +kernel
theorem dX12_init_922 : decode cX12_init 922 = .ok (.iconst 3, 1) := by decide +kernel
theorem dX12_init_923 : decode cX12_init 923 = .ok (.iconst (-1), 1) := by decide +kernel
theorem dX12_init_924 : decode cX12_init 924 = .ok (.iastore, 1) := by decide +kernel
theorem dX12_init_925 : decode cX12_init 925 = .ok (.putfield 133, 3) := by decide +kernel
theorem dX12_init_928 : decode cX12_init 928 = .ok (.aload_n 0, 1) := by decide +kernel
theorem dX12_init_929 : decode cX12_init 929 = .ok (.iconst 4, 1) := by decide +kernel
theorem dX12_init_930 : decode cX12_init 930 = .ok (.newarray .int, 2) := by decide +kernel
theorem dX12_init_932 : decode cX12_init 932 = .ok (.putfield 136, 3) := by decide +kernel
theorem dX12_init_935 : decode cX12_init 935 = .ok (.aload_n 0, 1) := by decide +kernel
theorem dX12_init_936 : decode cX12_init 936 = .ok (.sipush 3200, 3) := by decide +kernel
theorem dX12_init_939 : decode cX12_init 939 = .ok (.newarray .int, 2) := by decide +kernel
theorem dX12_init_941 : decode cX12_init 941 = .ok (.putfield 139, 3) := by decide +kernel
theorem dX12_init_944 : decode cX12_init 944 = .ok (.aload_n 0, 1) := by decide +kernel
theorem dX12_init_945 : decode cX12_init 945 = .ok (.bipush 32, 2) := by decide +kernel
theorem dX12_init_947 : decode cX12_init 947 = .ok (.newarray .int, 2) := by decide +kernel
theorem dX12_init_949 : decode cX12_init 949 = .ok (.putfield 142, 3) := by decide +kernel
theorem dX12_init_952 : decode cX12_init 952 = .ok (.aload_n 0, 1) := by decide +kernel
theorem dX12_init_953 : decode cX12_init 953 = .ok (.bipush 32, 2) := by decide +kernel
theorem dX12_init_955 : decode cX12_init 955 = .ok (.newarray .int, 2) := by decide +kernel
theorem dX12_init_957 : decode cX12_init 957 = .ok (.putfield 145, 3) := by decide +kernel
theorem dX12_init_960 : decode cX12_init 960 = .ok (.aload_n 0, 1) := by decide +kernel
theorem dX12_init_961 : decode cX12_init 961 = .ok (.bipush 8, 2) := by decide +kernel
theorem dX12_init_963 : decode cX12_init 963 = .ok (.newarray .int, 2) := by decide +kernel
theorem dX12_init_965 : decode cX12_init 965 = .ok (.putfield 148, 3) := by decide +kernel
theorem dX12_init_968 : decode cX12_init 968 = .ok (.aload_n 0, 1) := by decide +kernel
theorem dX12_init_969 : decode cX12_init 969 = .ok (.bipush 8, 2) := by decide +kernel
theorem dX12_init_971 : decode cX12_init 971 = .ok (.newarray .int, 2) := by decide +kernel
theorem dX12_init_973 : decode cX12_init 973 = .ok (.putfield 151, 3) := by decide +kernel
theorem dX12_init_976 : decode cX12_init 976 = .ok (.aload_n 0, 1) := by decide +kernel
theorem dX12_init_977 : decode cX12_init 977 = .ok (.bipush 8, 2) := by decide +kernel
theorem dX12_init_979 : decode cX12_init 979 = .ok (.newarray .int, 2) := by decide +kernel
theorem dX12_init_981 : decode cX12_init 981 = .ok (.putfield 154, 3) := by decide +kernel
theorem dX12_init_984 : decode cX12_init 984 = .ok (.aload_n 0, 1) := by decide +kernel
theorem dX12_init_985 : decode cX12_init 985 = .ok (.bipush 24, 2) := by decide +kernel
theorem dX12_init_987 : decode cX12_init 987 = .ok (.newarray .int, 2) := by decide +kernel
theorem dX12_init_989 : decode cX12_init 989 = .ok (.putfield 157, 3) := by decide +kernel
theorem dX12_init_992 : decode cX12_init 992 = .ok (.aload_n 0, 1) := by decide +kernel
theorem dX12_init_993 : decode cX12_init 993 = .ok (.bipush 24, 2) := by decide +kernel
theorem dX12_init_995 : decode cX12_init 995 = .ok (.newarray .long, 2) := by decide +kernel
theorem dX12_init_997 : decode cX12_init 997 = .ok (.putfield 160, 3) := by decide +kernel
theorem dX12_init_1000 : decode cX12_init 1000 = .ok (.aload_n 0, 1) := by decide +kernel
theorem dX12_init_1001 : decode cX12_init 1001 = .ok (.iconst 3, 1) := by decide +kernel
theorem dX12_init_1002 : decode cX12_init 1002 = .ok (.newarray .int, 2) := by decide +kernel
theorem dX12_init_1004 : decode cX12_init 1004 = .ok (.putfield 163, 3) := by decide +kernel
theorem dX12_init_1007 : decode cX12_init 1007 = .ok (.aload_n 0, 1) := by decide +kernel
theorem dX12_init_1008 : decode cX12_init 1008 = .ok (.iconst 4, 1) := by decide +kernel
theorem dX12_init_1009 : decode cX12_init 1009 = .ok (.newarray .int, 2) := by decide +kernel
theorem dX12_init_1011 : decode cX12_init 1011 = .ok (.putfield 166, 3) := by decide +kernel
theorem dX12_init_1014 : decode cX12_init 1014 = .ok (.aload_n 0, 1) := by decide +kernel
theorem dX12_init_1015 : decode cX12_init 1015 = .ok (.bipush 48, 2) := by decide +kernel
theorem dX12_init_1017 : decode cX12_init 1017 = .ok (.newarray .int, 2) := by decide +kernel
theorem dX12_init_1019 : decode cX12_init 1019 = .ok (.putfield 169, 3) := by decide +kernel
theorem dX12_init_1022 : decode cX12_init 1022 = .ok (.aload_n 0, 1) := by decide +kernel
theorem dX12_init_1023 : decode cX12_init 1023 = .ok (.sipush 640, 3) := by decide +kernel
theorem dX12_init_1026 : decode cX12_init 1026 = .ok (.newarray .int, 2) := by decide +kernel
theorem dX12_init_1028 : decode cX12_init 1028 = .ok (.putfield 172, 3) := by decide +kernel
theorem dX12_init_1031 : decode cX12_init 1031 = .ok (.aload_n 0, 1) := by decide +kernel
theorem dX12_init_1032 : decode cX12_init 1032 = .ok (.lconst 1, 1) := by decide +kernel
theorem dX12_init_1033 : decode cX12_init 1033 = .ok (.putfield 175, 3) := by decide +kernel
theorem dX12_init_1036 : decode cX12_init 1036 = .ok (.aload_n 0, 1) := by decide +kernel
theorem dX12_init_1037 : decode cX12_init 1037 = .ok (.iconst 5, 1) := by decide +kernel
theorem dX12_init_1038 : decode cX12_init 1038 = .ok (.newarray .char, 2) := by decide +kernel
theorem dX12_init_1040 : decode cX12_init 1040 = .ok (.dup, 1) := by decide +kernel
theorem dX12_init_1041 : decode cX12_init 1041 = .ok (.iconst 0, 1) := by decide +kernel
theorem dX12_init_1042 : decode cX12_init 1042 = .ok (.bipush 102, 2) := by decide +kernel
theorem dX12_init_1044 : decode cX12_init 1044 = .ok (.castore, 1) := by decide +kernel
theorem dX12_init_1045 : decode cX12_init 1045 = .ok (.dup, 1) := by decide +kernel
theorem dX12_init_1046 : decode cX12_init 1046 = .ok (.iconst 1, 1) := by decide +kernel
theorem dX12_init_1047 : decode cX12_init 1047 = .ok (.bipush 105, 2) := by decide +kernel
theorem dX12_init_1049 : decode cX12_init 1049 = .ok (.castore, 1) := by decide +kernel
theorem dX12_init_1050 : decode cX12_init 1050 = .ok (.dup, 1) := by decide +kernel
theorem dX12_init_1051 : decode cX12_init 1051 = .ok (.iconst 2, 1) := by decide +kernel
theorem dX12_init_1052 : decode cX12_init 1052 = .ok (.bipush 114, 2) := by decide +kernel
theorem dX12_init_1054 : decode cX12_init 1054 = .ok (.castore, 1) := by decide +kernel
theorem dX12_init_1055 : decode cX12_init 1055 = .ok (.dup, 1) := by decide +kernel
theorem dX12_init_1056 : decode cX12_init 1056 = .ok (.iconst 3, 1) := by decide +kernel
theorem dX12_init_1057 : decode cX12_init 1057 = .ok (.bipush 115, 2) := by decide +kernel
theorem dX12_init_1059 : decode cX12_init 1059 = .ok (.castore, 1) := by decide +kernel
theorem dX12_init_1060 : decode cX12_init 1060 = .ok (.dup, 1) := by decide +kernel
theorem dX12_init_1061 : decode cX12_init 1061 = .ok (.iconst 4, 1) := by decide +kernel
theorem dX12_init_1062 : decode cX12_init 1062 = .ok (.bipush 116, 2) := by decide +kernel
theorem dX12_init_1064 : decode cX12_init 1064 = .ok (.castore, 1) := by decide +kernel
theorem dX12_init_1065 : decode cX12_init 1065 = .ok (.putfield 179, 3) := by decide +kernel
theorem dX12_init_1068 : decode cX12_init 1068 = .ok (.aload_n 0, 1) := by decide +kernel
theorem dX12_init_1069 : decode cX12_init 1069 = .ok (.iconst 4, 1) := by decide +kernel
theorem dX12_init_1070 : decode cX12_init 1070 = .ok (.newarray .char, 2) := by decide +kernel
theorem dX12_init_1072 : decode cX12_init 1072 = .ok (.dup, 1) := by decide +kernel
theorem dX12_init_1073 : decode cX12_init 1073 = .ok (.iconst 0, 1) := by decide +kernel
theorem dX12_init_1074 : decode cX12_init 1074 = .ok (.bipush 108, 2) := by decide +kernel
theorem dX12_init_1076 : decode cX12_init 1076 = .ok (.castore, 1) := by decide +kernel
theorem dX12_init_1077 : decode cX12_init 1077 = .ok (.dup, 1) := by decide +kernel
theorem dX12_init_1078 : decode cX12_init 1078 = .ok (.iconst 1, 1) := by decide +kernel
theorem dX12_init_1079 : decode cX12_init 1079 = .ok (.bipush 97, 2) := by decide +kernel
theorem dX12_init_1081 : decode cX12_init 1081 = .ok (.castore, 1) := by decide +kernel
theorem dX12_init_1082 : decode cX12_init 1082 = .ok (.dup, 1) := by decide +kernel
theorem dX12_init_1083 : decode cX12_init 1083 = .ok (.iconst 2, 1) := by decide +kernel
theorem dX12_init_1084 : decode cX12_init 1084 = .ok (.bipush 115, 2) := by decide +kernel
theorem dX12_init_1086 : decode cX12_init 1086 = .ok (.castore, 1) := by decide +kernel
theorem dX12_init_1087 : decode cX12_init 1087 = .ok (.dup, 1) := by decide +kernel
theorem dX12_init_1088 : decode cX12_init 1088 = .ok (.iconst 3, 1) := by decide +kernel
theorem dX12_init_1089 : decode cX12_init 1089 = .ok (.bipush 116, 2) := by decide +kernel
theorem dX12_init_1091 : decode cX12_init 1091 = .ok (.castore, 1) := by decide +kernel
theorem dX12_init_1092 : decode cX12_init 1092 = .ok (.putfield 182, 3) := by decide +kernel
theorem dX12_init_1095 : decode cX12_init 1095 = .ok (.aload_n 0, 1) := by decide +kernel
theorem dX12_init_1096 : decode cX12_init 1096 = .ok (.iconst 5, 1) := by decide +kernel
theorem dX12_init_1097 : decode cX12_init 1097 = .ok (.newarray .char, 2) := by decide +kernel
theorem dX12_init_1099 : decode cX12_init 1099 = .ok (.dup, 1) := by decide +kernel
theorem dX12_init_1100 : decode cX12_init 1100 = .ok (.iconst 0, 1) := by decide +kernel
theorem dX12_init_1101 : decode cX12_init 1101 = .ok (.bipush 111, 2) := by decide +kernel
theorem dX12_init_1103 : decode cX12_init 1103 = .ok (.castore, 1) := by decide +kernel
theorem dX12_init_1104 : decode cX12_init 1104 = .ok (.dup, 1) := by decide +kernel
theorem dX12_init_1105 : decode cX12_init 1105 = .ok (.iconst 1, 1) := by decide +kernel
theorem dX12_init_1106 : decode cX12_init 1106 = .ok (.bipush 102, 2) := by decide +kernel
theorem dX12_init_1108 : decode cX12_init 1108 = .ok (.castore, 1) := by decide +kernel
theorem dX12_init_1109 : decode cX12_init 1109 = .ok (.dup, 1) := by decide +kernel
theorem dX12_init_1110 : decode cX12_init 1110 = .ok (.iconst 2, 1) := by decide +kernel
theorem dX12_init_1111 : decode cX12_init 1111 = .ok (.bipush 116, 2) := by decide +kernel
theorem dX12_init_1113 : decode cX12_init 1113 = .ok (.castore, 1) := by decide +kernel
theorem dX12_init_1114 : decode cX12_init 1114 = .ok (.dup, 1) := by decide +kernel
theorem dX12_init_1115 : decode cX12_init 1115 = .ok (.iconst 3, 1) := by decide +kernel
theorem dX12_init_1116 : decode cX12_init 1116 = .ok (.bipush 101, 2) := by decide +kernel
theorem dX12_init_1118 : decode cX12_init 1118 = .ok (.castore, 1) := by decide +kernel
theorem dX12_init_1119 : decode cX12_init 1119 = .ok (.dup, 1) := by decide +kernel
theorem dX12_init_1120 : decode cX12_init 1120 = .ok (.iconst 4, 1) := by decide +kernel
theorem dX12_init_1121 : decode cX12_init 1121 = .ok (.bipush 110, 2) := by decide +kernel
theorem dX12_init_1123 : decode cX12_init 1123 = .ok (.castore, 1) := by decide +kernel
theorem dX12_init_1124 : decode cX12_init 1124 = .ok (.putfield 185, 3) := by decide +kernel
theorem dX12_init_1127 : decode cX12_init 1127 = .ok (.aload_n 0, 1) := by decide +kernel
theorem dX12_init_1128 : decode cX12_init 1128 = .ok (.iconst 5, 1) := by decide +kernel
theorem dX12_init_1129 : decode cX12_init 1129 = .ok (.newarray .char, 2) := by decide +kernel
theorem dX12_init_1131 : decode cX12_init 1131 = .ok (.dup, 1) := by decide +kernel
theorem dX12_init_1132 : decode cX12_init 1132 = .ok (.iconst 0, 1) := by decide +kernel
theorem dX12_init_1133 : decode cX12_init 1133 = .ok (.bipush 116, 2) := by decide +kernel
theorem dX12_init_1135 : decode cX12_init 1135 = .ok (.castore, 1) := by decide +kernel
theorem dX12_init_1136 : decode cX12_init 1136 = .ok (.dup, 1) := by decide +kernel
theorem dX12_init_1137 : decode cX12_init 1137 = .ok (.iconst 1, 1) := by decide +kernel
theorem dX12_init_1138 : decode cX12_init 1138 = .ok (.bipush 111, 2) := by decide +kernel
theorem dX12_init_1140 : decode cX12_init 1140 = .ok (.castore, 1) := by decide +kernel
theorem dX12_init_1141 : decode cX12_init 1141 = .ok (.dup, 1) := by decide +kernel
theorem dX12_init_1142 : decode cX12_init 1142 = .ok (.iconst 2, 1) := by decide +kernel
theorem dX12_init_1143 : decode cX12_init 1143 = .ok (.bipush 116, 2) := by decide +kernel
theorem dX12_init_1145 : decode cX12_init 1145 = .ok (.castore, 1) := by decide +kernel
theorem dX12_init_1146 : decode cX12_init 1146 = .ok (.dup, 1) := by decide +kernel
theorem dX12_init_1147 : decode cX12_init 1147 = .ok (.iconst 3, 1) := by decide +kernel
theorem dX12_init_1148 : decode cX12_init 1148 = .ok (.bipush 97, 2) := by decide +kernel
theorem dX12_init_1150 : decode cX12_init 1150 = .ok (.castore, 1) := by decide +kernel
theorem dX12_init_1151 : decode cX12_init 1151 = .ok (.dup, 1) := by decide +kernel
theorem dX12_init_1152 : decode cX12_init 1152 = .ok (.iconst 4, 1) := by decide +kernel
theorem dX12_init_1153 : decode cX12_init 1153 = .ok (.bipush 108, 2) := by decide +kernel
theorem dX12_init_1155 : decode cX12_init 1155 = .ok (.castore, 1) := by decide +kernel
theorem dX12_init_1156 : decode cX12_init 1156 = .ok (.putfield 188, 3) := by decide +kernel
theorem dX12_init_1159 : decode cX12_init 1159 = .ok (.aload_n 0, 1) := by decide +kernel
theorem dX12_init_1160 : decode cX12_init 1160 = .ok (.iconst 4, 1) := by decide +kernel
theorem dX12_init_1161 : decode cX12_init 1161 = .ok (.newarray .char, 2) := by decide +kernel
theorem dX12_init_1163 : decode cX12_init 1163 = .ok (.dup, 1) := by decide +kernel
theorem dX12_init_1164 : decode cX12_init 1164 = .ok (.iconst 0, 1) := by decide +kernel
theorem dX12_init_1165 : decode cX12_init 1165 = .ok (.bipush 109, 2) := by decide +kernel
theorem dX12_init_1167 : decode cX12_init 1167 = .ok (.castore, 1) := by decide +kernel
theorem dX12_init_1168 : decode cX12_init 1168 = .ok (.dup, 1) := by decide +kernel
theorem dX12_init_1169 : decode cX12_init 1169 = .ok (.iconst 1, 1) := by decide +kernel
theorem dX12_init_1170 : decode cX12_init 1170 = .ok (.bipush 111, 2) := by decide +kernel
theorem dX12_init_1172 : decode cX12_init 1172 = .ok (.castore, 1) := by decide +kernel
theorem dX12_init_1173 : decode cX12_init 1173 = .ok (.dup, 1) := by decide +kernel
theorem dX12_init_1174 : decode cX12_init 1174 = .ok (.iconst 2, 1) := by decide +kernel
theorem dX12_init_1175 : decode cX12_init 1175 = .ok (.bipush 115, 2) := by decide +kernel
theorem dX12_init_1177 : decode cX12_init 1177 = .ok (.castore, 1) := by decide +kernel
theorem dX12_init_1178 : decode cX12_init 1178 = .ok (.dup, 1) := by decide +kernel
theorem dX12_init_1179 : decode cX12_init 1179 = .ok (.iconst 3, 1) := by decide +kernel
theorem dX12_init_1180 : decode cX12_init 1180 = .ok (.bipush 116, 2) := by decide +kernel
theorem dX12_init_1182 : decode cX12_init 1182 = .ok (.castore, 1) := by decide +kernel
theorem dX12_init_1183 : decode cX12_init 1183 = .ok (.putfield 191, 3) := by decide +kernel
theorem dX12_init_1186 : decode cX12_init 1186 = .ok (.aload_n 0, 1) := by decide +kernel
theorem dX12_init_1187 : decode cX12_init 1187 = .ok (.iconst 5, 1) := by decide +kernel
theorem dX12_init_1188 : decode cX12_init 1188 = .ok (.newarray .char, 2) := by decide +kernel
theorem dX12_init_1190 : decode cX12_init 1190 = .ok (.dup, 1) := by decide +kernel
theorem dX12_init_1191 : decode cX12_init 1191 = .ok (.iconst 0, 1) := by decide +kernel
theorem dX12_init_1192 : decode cX12_init 1192 = .ok (.bipush 108, 2) := by decide +kernel
theorem dX12_init_1194 : decode cX12_init 1194 = .ok (.castore, 1) := by decide +kernel
theorem dX12_init_1195 : decode cX12_init 1195 = .ok (.dup, 1) := by decide +kernel
theorem dX12_init_1196 : decode cX12_init 1196 = .ok (.iconst 1, 1) := by decide +kernel
theorem dX12_init_1197 : decode cX12_init 1197 = .ok (.bipush 101, 2) := by decide +kernel
theorem dX12_init_1199 : decode cX12_init 1199 = .ok (.castore, 1) := by decide +kernel
theorem dX12_init_1200 : decode cX12_init 1200 = .ok (.dup, 1) := by decide +kernel
theorem dX12_init_1201 : decode cX12_init 1201 = .ok (.iconst 2, 1) := by decide +kernel
theorem dX12_init_1202 : decode cX12_init 1202 = .ok (.bipush 97, 2) := by decide +kernel
theorem dX12_init_1204 : decode cX12_init 1204 = .ok (.castore, 1) := by decide +kernel
theorem dX12_init_1205 : decode cX12_init 1205 = .ok (.dup, 1) := by decide +kernel
theorem dX12_init_1206 : decode cX12_init 1206 = .ok (.iconst 3, 1) := by decide +kernel
theorem dX12_init_1207 : decode cX12_init 1207 = .ok (.bipush 115, 2) := by decide +kernel
theorem dX12_init_1209 : decode cX12_init 1209 = .ok (.castore, 1) := by decide +kernel
theorem dX12_init_1210 : decode cX12_init 1210 = .ok (.dup, 1) := by decide +kernel
theorem dX12_init_1211 : decode cX12_init 1211 = .ok (.iconst 4, 1) := by decide +kernel
theorem dX12_init_1212 : decode cX12_init 1212 = .ok (.bipush 116, 2) := by decide +kernel
theorem dX12_init_1214 : decode cX12_init 1214 = .ok (.castore, 1) := by decide +kernel
theorem dX12_init_1215 : decode cX12_init 1215 = .ok (.putfield 194, 3) := by decide +kernel
theorem dX12_init_1218 : decode cX12_init 1218 = .ok (.aload_n 0, 1) := by decide +kernel
theorem dX12_init_1219 : decode cX12_init 1219 = .ok (.iconst 3, 1) := by decide +kernel
theorem dX12_init_1220 : decode cX12_init 1220 = .ok (.newarray .char, 2) := by decide +kernel
theorem dX12_init_1222 : decode cX12_init 1222 = .ok (.dup, 1) := by decide +kernel
theorem dX12_init_1223 : decode cX12_init 1223 = .ok (.iconst 0, 1) := by decide +kernel
theorem dX12_init_1224 : decode cX12_init 1224 = .ok (.bipush 110, 2) := by decide +kernel
theorem dX12_init_1226 : decode cX12_init 1226 = .ok (.castore, 1) := by decide +kernel
theorem dX12_init_1227 : decode cX12_init 1227 = .ok (.dup, 1) := by decide +kernel
theorem dX12_init_1228 : decode cX12_init 1228 = .ok (.iconst 1, 1) := by decide +kernel
theorem dX12_init_1229 : decode cX12_init 1229 = .ok (.bipush 111, 2) := by decide +kernel
theorem dX12_init_1231 : decode cX12_init 1231 = .ok (.castore, 1) := by decide +kernel
theorem dX12_init_1232 : decode cX12_init 1232 = .ok (.dup, 1) := by decide +kernel
theorem dX12_init_1233 : decode cX12_init 1233 = .ok (.iconst 2, 1) := by decide +kernel
theorem dX12_init_1234 : decode cX12_init 1234 = .ok (.bipush 116, 2) := by decide +kernel
theorem dX12_init_1236 : decode cX12_init 1236 = .ok (.castore, 1) := by decide +kernel
theorem dX12_init_1237 : decode cX12_init 1237 = .ok (.putfield 197, 3) := by decide +kernel
theorem dX12_init_1240 : decode cX12_init 1240 = .ok (.aload_n 0, 1) := by decide +kernel
theorem dX12_init_1241 : decode cX12_init 1241 = .ok (.iconst 3, 1) := by decide +kernel
theorem dX12_init_1242 : decode cX12_init 1242 = .ok (.newarray .char, 2) := by decide +kernel
theorem dX12_init_1244 : decode cX12_init 1244 = .ok (.dup, 1) := by decide +kernel
theorem dX12_init_1245 : decode cX12_init 1245 = .ok (.iconst 0, 1) := by decide +kernel
theorem dX12_init_1246 : decode cX12_init 1246 = .ok (.bipush 97, 2) := by decide +kernel
theorem dX12_init_1248 : decode cX12_init 1248 = .ok (.castore, 1) := by decide +kernel
theorem dX12_init_1249 : decode cX12_init 1249 = .ok (.dup, 1) := by decide +kernel
theorem dX12_init_1250 : decode cX12_init 1250 = .ok (.iconst 1, 1) := by decide +kernel
theorem dX12_init_1251 : decode cX12_init 1251 = .ok (.bipush 110, 2) := by decide +kernel
theorem dX12_init_1253 : decode cX12_init 1253 = .ok (.castore, 1) := by decide +kernel
theorem dX12_init_1254 : decode cX12_init 1254 = .ok (.dup, 1) := by decide +kernel
theorem dX12_init_1255 : decode cX12_init 1255 = .ok (.iconst 2, 1) := by decide +kernel
theorem dX12_init_1256 : decode cX12_init 1256 = .ok (.bipush 100, 2) := by decide +kernel
theorem dX12_init_1258 : decode cX12_init 1258 = .ok (.castore, 1) := by decide +kernel
theorem dX12_init_1259 : decode cX12_init 1259 = .ok (.putfield 200, 3) := by decide +kernel
theorem dX12_init_1262 : decode cX12_init 1262 = .ok (.aload_n 0, 1) := by decide +kernel
theorem dX12_init_1263 : decode cX12_init 1263 = .ok (.iconst 2, 1) := by decide +kernel
theorem dX12_init_1264 : decode cX12_init 1264 = .ok (.newarray .char, 2) := by decide +kernel
theorem dX12_init_1266 : decode cX12_init 1266 = .ok (.dup, 1) := by decide +kernel
theorem dX12_init_1267 : decode cX12_init 1267 = .ok (.iconst 0, 1) := by decide +kernel
theorem dX12_init_1268 : decode cX12_init 1268 = .ok (.bipush 111, 2) := by decide +kernel
theorem dX12_init_1270 : decode cX12_init 1270 = .ok (.castore, 1) := by decide +kernel
theorem dX12_init_1271 : decode cX12_init 1271 = .ok (.dup, 1) := by decide +kernel
theorem dX12_init_1272 : decode cX12_init 1272 = .ok (.iconst 1, 1) := by decide +kernel
theorem dX12_init_1273 : decode cX12_init 1273 = .ok (.bipush 114, 2) := by decide +kernel
theorem dX12_init_1275 : decode cX12_init 1275 = .ok (.castore, 1) := by decide +kernel
theorem dX12_init_1276 : decode cX12_init 1276 = .ok (.putfield 203, 3) := by decide +kernel
theorem dX12_init_1279 : decode cX12_init 1279 = .ok (.aload_n 0, 1) := by decide +kernel
theorem dX12_init_1280 : decode cX12_init 1280 = .ok (.iconst 3, 1) := by decide +kernel
theorem dX12_init_1281 : decode cX12_init 1281 = .ok (.newarray .char, 2) := by decide +kernel
theorem dX12_init_1283 : decode cX12_init 1283 = .ok (.dup, 1) := by decide +kernel
theorem dX12_init_1284 : decode cX12_init 1284 = .ok (.iconst 0, 1) := by decide +kernel
theorem dX12_init_1285 : decode cX12_init 1285 = .ok (.bipush 97, 2) := by decide +kernel
theorem dX12_init_1287 : decode cX12_init 1287 = .ok (.castore, 1) := by decide +kernel
theorem dX12_init_1288 : decode cX12_init 1288 = .ok (.dup, 1) := by decide +kernel
theorem dX12_init_1289 : decode cX12_init 1289 = .ok (.iconst 1, 1) := by decide +kernel
theorem dX12_init_1290 : decode cX12_init 1290 = .ok (.bipush 108, 2) := by decide +kernel
theorem dX12_init_1292 : decode cX12_init 1292 = .ok (.castore, 1) := by decide +kernel
theorem dX12_init_1293 : decode cX12_init 1293 = .ok (.dup, 1) := by decide +kernel
theorem dX12_init_1294 : decode cX12_init 1294 = .ok (.iconst 2, 1) := by decide +kernel
theorem dX12_init_1295 : decode cX12_init 1295 = .ok (.bipush 108, 2) := by decide +kernel
theorem dX12_init_1297 : decode cX12_init 1297 = .ok (.castore, 1) := by decide +kernel
theorem dX12_init_1298 : decode cX12_init 1298 = .ok (.putfield 206, 3) := by decide +kernel
theorem dX12_init_1301 : decode cX12_init 1301 = .ok (.aload_n 0, 1) := by decide +kernel
theorem dX12_init_1302 : decode cX12_init 1302 = .ok (.iconst 3, 1) := by decide +kernel
theorem dX12_init_1303 : decode cX12_init 1303 = .ok (.newarray .char, 2) := by decide +kernel
theorem dX12_init_1305 : decode cX12_init 1305 = .ok (.dup, 1) := by decide +kernel
theorem dX12_init_1306 : decode cX12_init 1306 = .ok (.iconst 0, 1) := by decide +kernel
theorem dX12_init_1307 : decode cX12_init 1307 = .ok (.bipush 109, 2) := by decide +kernel
theorem dX12_init_1309 : decode cX12_init 1309 = .ok (.castore, 1) := by decide +kernel
theorem dX12_init_1310 : decode cX12_init 1310 = .ok (.dup, 1) := by decide +kernel
theorem dX12_init_1311 : decode cX12_init 1311 = .ok (.iconst 1, 1) := by decide +kernel
theorem dX12_init_1312 : decode cX12_init 1312 = .ok (.bipush 105, 2) := by decide +kernel
theorem dX12_init_1314 : decode cX12_init 1314 = .ok (.castore, 1) := by decide +kernel
theorem dX12_init_1315 : decode cX12_init 1315 = .ok (.dup, 1) := by decide +kernel
theorem dX12_init_1316 : decode cX12_init 1316 = .ok (.iconst 2, 1) := by decide +kernel
theorem dX12_init_1317 : decode cX12_init 1317 = .ok (.bipush 110, 2) := by decide +kernel
theorem dX12_init_1319 : decode cX12_init 1319 = .ok (.castore, 1) := by decide +kernel
theorem dX12_init_1320 : decode cX12_init 1320 = .ok (.putfield 209, 3) := by decide +kernel
theorem dX12_init_1323 : decode cX12_init 1323 = .ok (.aload_n 0, 1) := by decide +kernel
theorem dX12_init_1324 : decode cX12_init 1324 = .ok (.iconst 3, 1) := by decide +kernel
theorem dX12_init_1325 : decode cX12_init 1325 = .ok (.newarray .char, 2) := by decide +kernel
theorem dX12_init_1327 : decode cX12_init 1327 = .ok (.dup, 1) := by decide +kernel
theorem dX12_init_1328 : decode cX12_init 1328 = .ok (.iconst 0, 1) := by decide +kernel
theorem dX12_init_1329 : decode cX12_init 1329 = .ok (.bipush 109, 2) := by decide +kernel
theorem dX12_init_1331 : decode cX12_init 1331 = .ok (.castore, 1) := by decide +kernel
theorem dX12_init_1332 : decode cX12_init 1332 = .ok (.dup, 1) := by decide +kernel
theorem dX12_init_1333 : decode cX12_init 1333 = .ok (.iconst 1, 1) := by decide +kernel
theorem dX12_init_1334 : decode cX12_init 1334 = .ok (.bipush 97, 2) := by decide +kernel
theorem dX12_init_1336 : decode cX12_init 1336 = .ok (.castore, 1) := by decide +kernel
theorem dX12_init_1337 : decode cX12_init 1337 = .ok (.dup, 1) := by decide +kernel
theorem dX12_init_1338 : decode cX12_init 1338 = .ok (.iconst 2, 1) := by decide +kernel
theorem dX12_init_1339 : decode cX12_init 1339 = .ok (.bipush 120, 2) := by decide +kernel
theorem dX12_init_1341 : decode cX12_init 1341 = .ok (.castore, 1) := by decide +kernel
theorem dX12_init_1342 : decode cX12_init 1342 = .ok (.putfield 212, 3) := by decide +kernel
theorem dX12_init_1345 : decode cX12_init 1345 = .ok (.aload_n 0, 1) := by decide +kernel
theorem dX12_init_1346 : decode cX12_init 1346 = .ok (.iconst 3, 1) := by decide +kernel
theorem dX12_init_1347 : decode cX12_init 1347 = .ok (.newarray .char, 2) := by decide +kernel
theorem dX12_init_1349 : decode cX12_init 1349 = .ok (.dup, 1) := by decide +kernel
theorem dX12_init_1350 : decode cX12_init 1350 = .ok (.iconst 0, 1) := by decide +kernel
theorem dX12_init_1351 : decode cX12_init 1351 = .ok (.bipush 97, 2) := by decide +kernel
theorem dX12_init_1353 : decode cX12_init 1353 = .ok (.castore, 1) := by decide +kernel
theorem dX12_init_1354 : decode cX12_init 1354 = .ok (.dup, 1) := by decide +kernel
theorem dX12_init_1355 : decode cX12_init 1355 = .ok (.iconst 1, 1) := by decide +kernel
theorem dX12_init_1356 : decode cX12_init 1356 = .ok (.bipush 103, 2) := by decide +kernel
theorem dX12_init_1358 : decode cX12_init 1358 = .ok (.castore, 1) := by decide +kernel
theorem dX12_init_1359 : decode cX12_init 1359 = .ok (.dup, 1) := by decide +kernel
theorem dX12_init_1360 : decode cX12_init 1360 = .ok (.iconst 2, 1) := by decide +kernel
theorem dX12_init_1361 : decode cX12_init 1361 = .ok (.bipush 101, 2) := by decide +kernel
theorem dX12_init_1363 : decode cX12_init 1363 = .ok (.castore, 1) := by decide +kernel
theorem dX12_init_1364 : decode cX12_init 1364 = .ok (.putfield 215, 3) := by decide +kernel
theorem dX12_init_1367 : decode cX12_init 1367 = .ok (.aload_n 0, 1) := by decide +kernel
theorem dX12_init_1368 : decode cX12_init 1368 = .ok (.iconst 4, 1) := by decide +kernel
theorem dX12_init_1369 : decode cX12_init 1369 = .ok (.newarray .char, 2) := by decide +kernel
theorem dX12_init_1371 : decode cX12_init 1371 = .ok (.dup, 1) := by decide +kernel
theorem dX12_init_1372 : decode cX12_init 1372 = .ok (.iconst 0, 1) := by decide +kernel
theorem dX12_init_1373 : decode cX12_init 1373 = .ok (.bipush 110, 2) := by decide +kernel
theorem dX12_init_1375 : decode cX12_init 1375 = .ok (.castore, 1) := by decide +kernel
theorem dX12_init_1376 : decode cX12_init 1376 = .ok (.dup, 1) := by decide +kernel
theorem dX12_init_1377 : decode cX12_init 1377 = .ok (.iconst 1, 1) := by decide +kernel
theorem dX12_init_1378 : decode cX12_init 1378 = .ok (.bipush 101, 2) := by decide +kernel
theorem dX12_init_1380 : decode cX12_init 1380 = .ok (.castore, 1) := by decide +kernel
theorem dX12_init_1381 : decode cX12_init 1381 = .ok (.dup, 1) := by decide +kernel
theorem dX12_init_1382 : decode cX12_init 1382 = .ok (.iconst 2, 1) := by decide +kernel
theorem dX12_init_1383 : decode cX12_init 1383 = .ok (.bipush 101, 2) := by decide +kernel
theorem dX12_init_1385 : decode cX12_init 1385 = .ok (.castore, 1) := by decide +kernel
theorem dX12_init_1386 : decode cX12_init 1386 = .ok (.dup, 1) := by decide +kernel
theorem dX12_init_1387 : decode cX12_init 1387 = .ok (.iconst 3, 1) := by decide +kernel
theorem dX12_init_1388 : decode cX12_init 1388 = .ok (.bipush 100, 2) := by decide +kernel
theorem dX12_init_1390 : decode cX12_init 1390 = .ok (.castore, 1) := by decide +kernel
theorem dX12_init_1391 : decode cX12_init 1391 = .ok (.putfield 218, 3) := by decide +kernel
theorem dX12_init_1394 : decode cX12_init 1394 = .ok (.aload_n 0, 1) := by decide +kernel
theorem dX12_init_1395 : decode cX12_init 1395 = .ok (.iconst 5, 1) := by decide +kernel
theorem dX12_init_1396 : decode cX12_init 1396 = .ok (.newarray .char, 2) := by decide +kernel
theorem dX12_init_1398 : decode cX12_init 1398 = .ok (.dup, 1) := by decide +kernel
theorem dX12_init_1399 : decode cX12_init 1399 = .ok (.iconst 0, 1) := by decide +kernel
theorem dX12_init_1400 : decode cX12_init 1400 = .ok (.bipush 103, 2) := by decide +kernel
theorem dX12_init_1402 : decode cX12_init 1402 = .ok (.castore, 1) := by decide +kernel
theorem dX12_init_1403 : decode cX12_init 1403 = .ok (.dup, 1) := by decide +kernel
theorem dX12_init_1404 : decode cX12_init 1404 = .ok (.iconst 1, 1) := by decide +kernel
theorem dX12_init_1405 : decode cX12_init 1405 = .ok (.bipush 114, 2) := by decide +kernel
theorem dX12_init_1407 : decode cX12_init 1407 = .ok (.castore, 1) := by decide +kernel
theorem dX12_init_1408 : decode cX12_init 1408 = .ok (.dup, 1) := by decide +kernel
theorem dX12_init_1409 : decode cX12_init 1409 = .ok (.iconst 2, 1) := by decide +kernel
theorem dX12_init_1410 : decode cX12_init 1410 = .ok (.bipush 97, 2) := by decide +kernel
theorem dX12_init_1412 : decode cX12_init 1412 = .ok (.castore, 1) := by decide +kernel
theorem dX12_init_1413 : decode cX12_init 1413 = .ok (.dup, 1) := by decide +kernel
theorem dX12_init_1414 : decode cX12_init 1414 = .ok (.iconst 3, 1) := by decide +kernel
theorem dX12_init_1415 : decode cX12_init 1415 = .ok (.bipush 118, 2) := by decide +kernel
theorem dX12_init_1417 : decode cX12_init 1417 = .ok (.castore, 1) := by decide +kernel
theorem dX12_init_1418 : decode cX12_init 1418 = .ok (.dup, 1) := by decide +kernel
theorem dX12_init_1419 : decode cX12_init 1419 = .ok (.iconst 4, 1) := by decide +kernel
theorem dX12_init_1420 : decode cX12_init 1420 = .ok (.bipush 101, 2) := by decide +kernel
theorem dX12_init_1422 : decode cX12_init 1422 = .ok (.castore, 1) := by decide +kernel
theorem dX12_init_1423 : decode cX12_init 1423 = .ok (.putfield 221, 3) := by decide +kernel
theorem dX12_init_1426 : decode cX12_init 1426 = .ok (.aload_n 0, 1) := by decide +kernel
theorem dX12_init_1427 : decode cX12_init 1427 = .ok (.iconst 4, 1) := by decide +kernel
theorem dX12_init_1428 : decode cX12_init 1428 = .ok (.newarray .char, 2) := by decide +kernel
theorem dX12_init_1430 : decode cX12_init 1430 = .ok (.dup, 1) := by decide +kernel
theorem dX12_init_1431 : decode cX12_init 1431 = .ok (.iconst 0, 1) := by decide +kernel
theorem dX12_init_1432 : decode cX12_init 1432 = .ok (.bipush 104, 2) := by decide +kernel
theorem dX12_init_1434 : decode cX12_init 1434 = .ok (.castore, 1) := by decide +kernel
theorem dX12_init_1435 : decode cX12_init 1435 = .ok (.dup, 1) := by decide +kernel
theorem dX12_init_1436 : decode cX12_init 1436 = .ok (.iconst 1, 1) := by decide +kernel
theorem dX12_init_1437 : decode cX12_init 1437 = .ok (.bipush 97, 2) := by decide +kernel
theorem dX12_init_1439 : decode cX12_init 1439 = .ok (.castore, 1) := by decide +kernel
theorem dX12_init_1440 : decode cX12_init 1440 = .ok (.dup, 1) := by decide +kernel
theorem dX12_init_1441 : decode cX12_init 1441 = .ok (.iconst 2, 1) := by decide +kernel
theorem dX12_init_1442 : decode cX12_init 1442 = .ok (.bipush 110, 2) := by decide +kernel
theorem dX12_init_1444 : decode cX12_init 1444 = .ok (.castore, 1) := by decide +kernel
theorem dX12_init_1445 : decode cX12_init 1445 = .ok (.dup, 1) := by decide +kernel
theorem dX12_init_1446 : decode cX12_init 1446 = .ok (.iconst 3, 1) := by decide +kernel
theorem dX12_init_1447 : decode cX12_init 1447 = .ok (.bipush 100, 2) := by decide +kernel
theorem dX12_init_1449 : decode cX12_init 1449 = .ok (.castore, 1) := by decide +kernel
theorem dX12_init_1450 : decode cX12_init 1450 = .ok (.putfield 224, 3) := by decide +kernel
theorem dX12_init_1453 : decode cX12_init 1453 = .ok (.aload_n 0, 1) := by decide +kernel
theorem dX12_init_1454 : decode cX12_init 1454 = .ok (.bipush 6, 2) := by decide +kernel
theorem dX12_init_1456 : decode cX12_init 1456 = .ok (.newarray .char, 2) := by decide +kernel
theorem dX12_init_1458 : decode cX12_init 1458 = .ok (.dup, 1) := by decide +kernel
theorem dX12_init_1459 : decode cX12_init 1459 = .ok (.iconst 0, 1) := by decide +kernel
theorem dX12_init_1460 : decode cX12_init 1460 = .ok (.bipush 119, 2) := by decide +kernel
theorem dX12_init_1462 : decode cX12_init 1462 = .ok (.castore, 1) := by decide +kernel
theorem dX12_init_1463 : decode cX12_init 1463 = .ok (.dup, 1) := by decide +kernel
theorem dX12_init_1464 : decode cX12_init 1464 = .ok (.iconst 1, 1) := by decide +kernel
theorem dX12_init_1465 : decode cX12_init 1465 = .ok (.bipush 105, 2) := by decide +kernel
theorem dX12_init_1467 : decode cX12_init 1467 = .ok (.castore, 1) := by decide +kernel
theorem dX12_init_1468 : decode cX12_init 1468 = .ok (.dup, 1) := by decide +kernel
theorem dX12_init_1469 : decode cX12_init 1469 = .ok (.iconst 2, 1) := by decide +kernel
theorem dX12_init_1470 : decode cX12_init 1470 = .ok (.bipush 115, 2) := by decide +kernel
theorem dX12_init_1472 : decode cX12_init 1472 = .ok (.castore, 1) := by decide +kernel
theorem dX12_init_1473 : decode cX12_init 1473 = .ok (.dup, 1) := by decide +kernel
theorem dX12_init_1474 : decode cX12_init 1474 = .ok (.iconst 3, 1) := by decide +kernel
theorem dX12_init_1475 : decode cX12_init 1475 = .ok (.bipush 104, 2) := by decide +kernel
theorem dX12_init_1477 : decode cX12_init 1477 = .ok (.castore, 1) := by decide +kernel
theorem dX12_init_1478 : decode cX12_init 1478 = .ok (.dup, 1) := by decide +kernel
theorem dX12_init_1479 : decode cX12_init 1479 = .ok (.iconst 4, 1) := by decide +kernel
theorem dX12_init_1480 : decode cX12_init 1480 = .ok (.bipush 101, 2) := by decide +kernel
theorem dX12_init_1482 : decode cX12_init 1482 = .ok (.castore, 1) := by decide +kernel
theorem dX12_init_1483 : decode cX12_init 1483 = .ok (.dup, 1) := by decide +kernel
theorem dX12_init_1484 : decode cX12_init 1484 = .ok (.iconst 5, 1) := by decide +kernel
theorem dX12_init_1485 : decode cX12_init 1485 = .ok (.bipush 115, 2) := by decide +kernel
theorem dX12_init_1487 : decode cX12_init 1487 = .ok (.castore, 1) := by decide +kernel
theorem dX12_init_1488 : decode cX12_init 1488 = .ok (.putfield 227, 3) := by decide +kernel
theorem dX12_init_1491 : decode cX12_init 1491 = .ok (.aload_n 0, 1) := by decide +kernel
theorem dX12_init_1492 : decode cX12_init 1492 = .ok (.iconst 3, 1) := by decide +kernel
theorem dX12_init_1493 : decode cX12_init 1493 = .ok (.newarray .char, 2) := by decide +kernel
theorem dX12_init_1495 : decode cX12_init 1495 = .ok (.dup, 1) := by decide +kernel
theorem dX12_init_1496 : decode cX12_init 1496 = .ok (.iconst 0, 1) := by decide +kernel
theorem dX12_init_1497 : decode cX12_init 1497 = .ok (.bipush 100, 2) := by decide +kernel
theorem dX12_init_1499 : decode cX12_init 1499 = .ok (.castore, 1) := by decide +kernel
theorem dX12_init_1500 : decode cX12_init 1500 = .ok (.dup, 1) := by decide +kernel
theorem dX12_init_1501 : decode cX12_init 1501 = .ok (.iconst 1, 1) := by decide +kernel
theorem dX12_init_1502 : decode cX12_init 1502 = .ok (.bipush 97, 2) := by decide +kernel
theorem dX12_init_1504 : decode cX12_init 1504 = .ok (.castore, 1) := by decide +kernel
theorem dX12_init_1505 : decode cX12_init 1505 = .ok (.dup, 1) := by decide +kernel
theorem dX12_init_1506 : decode cX12_init 1506 = .ok (.iconst 2, 1) := by decide +kernel
theorem dX12_init_1507 : decode cX12_init 1507 = .ok (.bipush 121, 2) := by decide +kernel
theorem dX12_init_1509 : decode cX12_init 1509 = .ok (.castore, 1) := by decide +kernel
theorem dX12_init_1510 : decode cX12_init 1510 = .ok (.putfield 230, 3) := by decide +kernel
theorem dX12_init_1513 : decode cX12_init 1513 = .ok (.aload_n 0, 1) := by decide +kernel
theorem dX12_init_1514 : decode cX12_init 1514 = .ok (.bipush 6, 2) := by decide +kernel
theorem dX12_init_1516 : decode cX12_init 1516 = .ok (.newarray .char, 2) := by decide +kernel
theorem dX12_init_1518 : decode cX12_init 1518 = .ok (.dup, 1) := by decide +kernel
theorem dX12_init_1519 : decode cX12_init 1519 = .ok (.iconst 0, 1) := by decide +kernel
theorem dX12_init_1520 : decode cX12_init 1520 = .ok (.bipush 110, 2) := by decide +kernel
theorem dX12_init_1522 : decode cX12_init 1522 = .ok (.castore, 1) := by decide +kernel
theorem dX12_init_1523 : decode cX12_init 1523 = .ok (.dup, 1) := by decide +kernel
theorem dX12_init_1524 : decode cX12_init 1524 = .ok (.iconst 1, 1) := by decide +kernel
theorem dX12_init_1525 : decode cX12_init 1525 = .ok (.bipush 117, 2) := by decide +kernel
theorem dX12_init_1527 : decode cX12_init 1527 = .ok (.castore, 1) := by decide +kernel
theorem dX12_init_1528 : decode cX12_init 1528 = .ok (.dup, 1) := by decide +kernel
theorem dX12_init_1529 : decode cX12_init 1529 = .ok (.iconst 2, 1) := by decide +kernel
theorem dX12_init_1530 : decode cX12_init 1530 = .ok (.bipush 109, 2) := by decide +kernel
theorem dX12_init_1532 : decode cX12_init 1532 = .ok (.castore, 1) := by decide +kernel
theorem dX12_init_1533 : decode cX12_init 1533 = .ok (.dup, 1) := by decide +kernel
theorem dX12_init_1534 : decode cX12_init 1534 = .ok (.iconst 3, 1) := by decide +kernel
theorem dX12_init_1535 : decode cX12_init 1535 = .ok (.bipush 98, 2) := by decide +kernel
theorem dX12_init_1537 : decode cX12_init 1537 = .ok (.castore, 1) := by decide +kernel
theorem dX12_init_1538 : decode cX12_init 1538 = .ok (.dup, 1) := by decide +kernel
theorem dX12_init_1539 : decode cX12_init 1539 = .ok (.iconst 4, 1) := by decide +kernel
theorem dX12_init_1540 : decode cX12_init 1540 = .ok (.bipush 101, 2) := by decide +kernel
theorem dX12_init_1542 : decode cX12_init 1542 = .ok (.castore, 1) := by decide +kernel
theorem dX12_init_1543 : decode cX12_init 1543 = .ok (.dup, 1) := by decide +kernel
theorem dX12_init_1544 : decode cX12_init 1544 = .ok (.iconst 5, 1) := by decide +kernel
theorem dX12_init_1545 : decode cX12_init 1545 = .ok (.bipush 114, 2) := by decide +kernel
theorem dX12_init_1547 : decode cX12_init 1547 = .ok (.castore, 1) := by decide +kernel
theorem dX12_init_1548 : decode cX12_init 1548 = .ok (.putfield 233, 3) := by decide +kernel
theorem dX12_init_1551 : decode cX12_init 1551 = .ok (.aload_n 0, 1) := by decide +kernel
theorem dX12_init_1552 : decode cX12_init 1552 = .ok (.iconst 5, 1) := by decide +kernel
theorem dX12_init_1553 : decode cX12_init 1553 = .ok (.newarray .char, 2) := by decide +kernel
theorem dX12_init_1555 : decode cX12_init 1555 = .ok (.dup, 1) := by decide +kernel
theorem dX12_init_1556 : decode cX12_init 1556 = .ok (.iconst 0, 1) := by decide +kernel
theorem dX12_init_1557 : decode cX12_init 1557 = .ok (.bipush 115, 2) := by decide +kernel
theorem dX12_init_1559 : decode cX12_init 1559 = .ok (.castore, 1) := by decide +kernel
theorem dX12_init_1560 : decode cX12_init 1560 = .ok (.dup, 1) := by decide +kernel
theorem dX12_init_1561 : decode cX12_init 1561 = .ok (.iconst 1, 1) := by decide +kernel
theorem dX12_init_1562 : decode cX12_init 1562 = .ok (.bipush 104, 2) := by decide +kernel
theorem dX12_init_1564 : decode cX12_init 1564 = .ok (.castore, 1) := by decide +kernel
theorem dX12_init_1565 : decode cX12_init 1565 = .ok (.dup, 1) := by decide +kernel
theorem dX12_init_1566 : decode cX12_init 1566 = .ok (.iconst 2, 1) := by decide +kernel
theorem dX12_init_1567 : decode cX12_init 1567 = .ok (.bipush 101, 2) := by decide +kernel
theorem dX12_init_1569 : decode cX12_init 1569 = .ok (.castore, 1) := by decide +kernel
theorem dX12_init_1570 : decode cX12_init 1570 = .ok (.dup, 1) := by decide +kernel
theorem dX12_init_1571 : decode cX12_init 1571 = .ok (.iconst 3, 1) := by decide +kernel
theorem dX12_init_1572 : decode cX12_init 1572 = .ok (.bipush 101, 2) := by decide +kernel
theorem dX12_init_1574 : decode cX12_init 1574 = .ok (.castore, 1) := by decide +kernel
theorem dX12_init_1575 : decode cX12_init 1575 = .ok (.dup, 1) := by decide +kernel
theorem dX12_init_1576 : decode cX12_init 1576 = .ok (.iconst 4, 1) := by decide +kernel
theorem dX12_init_1577 : decode cX12_init 1577 = .ok (.bipush 116, 2) := by decide +kernel
theorem dX12_init_1579 : decode cX12_init 1579 = .ok (.castore, 1) := by decide +kernel
theorem dX12_init_1580 : decode cX12_init 1580 = .ok (.putfield 236, 3) := by decide +kernel
theorem dX12_init_1583 : decode cX12_init 1583 = .ok (.aload_n 0, 1) := by decide +kernel
theorem dX12_init_1584 : decode cX12_init 1584 = .ok (.iconst 4, 1) := by decide +kernel
theorem dX12_init_1585 : decode cX12_init 1585 = .ok (.newarray .char, 2) := by decide +kernel
theorem dX12_init_1587 : decode cX12_init 1587 = .ok (.dup, 1) := by decide +kernel
theorem dX12_init_1588 : decode cX12_init 1588 = .ok (.iconst 0, 1) := by decide +kernel
theorem dX12_init_1589 : decode cX12_init 1589 = .ok (.bipush 100, 2) := by decide +kernel
theorem dX12_init_1591 : decode cX12_init 1591 = .ok (.castore, 1) := by decide +kernel
theorem dX12_init_1592 : decode cX12_init 1592 = .ok (.dup, 1) := by decide +kernel
theorem dX12_init_1593 : decode cX12_init 1593 = .ok (.iconst 1, 1) := by decide +kernel
theorem dX12_init_1594 : decode cX12_init 1594 = .ok (.bipush 111, 2) := by decide +kernel
theorem dX12_init_1596 : decode cX12_init 1596 = .ok (.castore, 1) := by decide +kernel
theorem dX12_init_1597 : decode cX12_init 1597 = .ok (.dup, 1) := by decide +kernel
theorem dX12_init_1598 : decode cX12_init 1598 = .ok (.iconst 2, 1) := by decide +kernel
theorem dX12_init_1599 : decode cX12_init 1599 = .ok (.bipush 110, 2) := by decide +kernel
theorem dX12_init_1601 : decode cX12_init 1601 = .ok (.castore, 1) := by decide +kernel
theorem dX12_init_1602 : decode cX12_init 1602 = .ok (.dup, 1) := by decide +kernel
theorem dX12_init_1603 : decode cX12_init 1603 = .ok (.iconst 3, 1) := by decide +kernel
theorem dX12_init_1604 : decode cX12_init 1604 = .ok (.bipush 101, 2) := by decide +kernel
theorem dX12_init_1606 : decode cX12_init 1606 = .ok (.castore, 1) := by decide +kernel
theorem dX12_init_1607 : decode cX12_init 1607 = .ok (.putfield 239, 3) := by decide +kernel
theorem dX12_init_1610 : decode cX12_init 1610 = .ok (.aload_n 0, 1) := by decide +kernel
theorem dX12_init_1611 : decode cX12_init 1611 = .ok (.iconst 4, 1) := by decide +kernel
theorem dX12_init_1612 : decode cX12_init 1612 = .ok (.newarray .char, 2) := by decide +kernel
theorem dX12_init_1614 : decode cX12_init 1614 = .ok (.dup, 1) := by decide +kernel
theorem dX12_init_1615 : decode cX12_init 1615 = .ok (.iconst 0, 1) := by decide +kernel
theorem dX12_init_1616 : decode cX12_init 1616 = .ok (.bipush 103, 2) := by decide +kernel
theorem dX12_init_1618 : decode cX12_init 1618 = .ok (.castore, 1) := by decide +kernel
theorem dX12_init_1619 : decode cX12_init 1619 = .ok (.dup, 1) := by decide +kernel
theorem dX12_init_1620 : decode cX12_init 1620 = .ok (.iconst 1, 1) := by decide +kernel
theorem dX12_init_1621 : decode cX12_init 1621 = .ok (.bipush 105, 2) := by decide +kernel
theorem dX12_init_1623 : decode cX12_init 1623 = .ok (.castore, 1) := by decide +kernel
theorem dX12_init_1624 : decode cX12_init 1624 = .ok (.dup, 1) := by decide +kernel
theorem dX12_init_1625 : decode cX12_init 1625 = .ok (.iconst 2, 1) := by decide +kernel
theorem dX12_init_1626 : decode cX12_init 1626 = .ok (.bipush 102, 2) := by decide +kernel
theorem dX12_init_1628 : decode cX12_init 1628 = .ok (.castore, 1) := by decide +kernel
theorem dX12_init_1629 : decode cX12_init 1629 = .ok (.dup, 1) := by decide +kernel
theorem dX12_init_1630 : decode cX12_init 1630 = .ok (.iconst 3, 1) := by decide +kernel
theorem dX12_init_1631 : decode cX12_init 1631 = .ok (.bipush 116, 2) := by decide +kernel
theorem dX12_init_1633 : decode cX12_init 1633 = .ok (.castore, 1) := by decide +kernel
theorem dX12_init_1634 : decode cX12_init 1634 = .ok (.putfield 242, 3) := by decide +kernel
theorem dX12_init_1637 : decode cX12_init 1637 = .ok (.aload_n 0, 1) := by decide +kernel
theorem dX12_init_1638 : decode cX12_init 1638 = .ok (.iconst 4, 1) := by decide +kernel
theorem dX12_init_1639 : decode cX12_init 1639 = .ok (.newarray .char, 2) := by decide +kernel
theorem dX12_init_1641 : decode cX12_init 1641 = .ok (.dup, 1) := by decide +kernel
theorem dX12_init_1642 : decode cX12_init 1642 = .ok (.iconst 0, 1) := by decide +kernel
theorem dX12_init_1643 : decode cX12_init 1643 = .ok (.bipush 119, 2) := by decide +kernel
theorem dX12_init_1645 : decode cX12_init 1645 = .ok (.castore, 1) := by decide +kernel
theorem dX12_init_1646 : decode cX12_init 1646 = .ok (.dup, 1) := by decide +kernel
theorem dX12_init_1647 : decode cX12_init 1647 = .ok (.iconst 1, 1) := by decide +kernel
theorem dX12_init_1648 : decode cX12_init 1648 = .ok (.bipush 105, 2) := by decide +kernel
theorem dX12_init_1650 : decode cX12_init 1650 = .ok (.castore, 1) := by decide +kernel
theorem dX12_init_1651 : decode cX12_init 1651 = .ok (.dup, 1) := by decide +kernel
theorem dX12_init_1652 : decode cX12_init 1652 = .ok (.iconst 2, 1) := by decide +kernel
theorem dX12_init_1653 : decode cX12_init 1653 = .ok (.bipush 115, 2) := by decide +kernel
theorem dX12_init_1655 : decode cX12_init 1655 = .ok (.castore, 1) := by decide +kernel
theorem dX12_init_1656 : decode cX12_init 1656 = .ok (.dup, 1) := by decide +kernel
theorem dX12_init_1657 : decode cX12_init 1657 = .ok (.iconst 3, 1) := by decide +kernel
theorem dX12_init_1658 : decode cX12_init 1658 = .ok (.bipush 104, 2) := by decide +kernel
theorem dX12_init_1660 : decode cX12_init 1660 = .ok (.castore, 1) := by decide +kernel
theorem dX12_init_1661 : decode cX12_init 1661 = .ok (.putfield 245, 3) := by decide +kernel
theorem dX12_init_1664 : decode cX12_init 1664 = .ok (.aload_n 0, 1) := by decide +kernel
theorem dX12_init_1665 : decode cX12_init 1665 = .ok (.sipush 1700, 3) := by decide +kernel
theorem dX12_init_1668 : decode cX12_init 1668 = .ok (.newarray .int, 2) := by decide +kernel
theorem dX12_init_1670 : decode cX12_init 1670 = .ok (.putfield 248, 3) := by decide +kernel
theorem dX12_init_1673 : decode cX12_init 1673 = .ok (.aload_n 0, 1) := by decide +kernel
theorem dX12_init_1674 : decode cX12_init 1674 = .ok (.sipush 1700, 3) := by decide +kernel
theorem dX12_init_1677 : decode cX12_init 1677 = .ok (.newarray .int, 2) := by decide +kernel
theorem dX12_init_1679 : decode cX12_init 1679 = .ok (.putfield 251, 3) := by decide +kernel
theorem dX12_init_1682 : decode cX12_init 1682 = .ok (.aload_n 0, 1) := by decide +kernel
theorem dX12_init_1683 : decode cX12_init 1683 = .ok (.sipush 1700, 3) := by decide +kernel
theorem dX12_init_1686 : decode cX12_init 1686 = .ok (.newarray .long, 2) := by decide +kernel
theorem dX12_init_1688 : decode cX12_init 1688 = .ok (.putfield 254, 3) := by decide +kernel
theorem dX12_init_1691 : decode cX12_init 1691 = .ok (.aload_n 0, 1) := by decide +kernel
theorem dX12_init_1692 : decode cX12_init 1692 = .ok (.bipush 34, 2) := by decide +kernel
theorem dX12_init_1694 : decode cX12_init 1694 = .ok (.newarray .int, 2) := by decide +kernel
theorem dX12_init_1696 : decode cX12_init 1696 = .ok (.putfield 257, 3) := by decide +kernel
theorem dX12_init_1699 : decode cX12_init 1699 = .ok (.return_, 1) := by decide +kernel
theorem dX10_init_0 : decode cX10_init 0 = .ok (.aload_n 0, 1) := by decide +kernel
theorem dX10_init_1 : decode cX10_init 1 = .ok (.invokespecial 3, 3) := by decide +kernel
theorem dX10_init_4 : decode cX10_init 4 = .ok (.aload_n 0, 1) := by decide +kernel
theorem dX10_init_5 : decode cX10_init 5 = .ok (.sipush 1600, 3) := by decide +kernel
theorem dX10_init_8 : decode cX10_init 8 = .ok (.newarray .int, 2) := by decide +kernel
theorem dX10_init_10 : decode cX10_init 10 = .ok (.putfield 9, 3) := by decide +kernel
theorem dX10_init_13 : decode cX10_init 13 = .ok (.aload_n 0, 1) := by decide +kernel
theorem dX10_init_14 : decode cX10_init 14 = .ok (.iconst (-1), 1) := by decide +kernel
theorem dX10_init_15 : decode cX10_init 15 = .ok (.putfield 15, 3) := by decide +kernel
theorem dX10_init_18 : decode cX10_init 18 = .ok (.aload_n 0, 1) := by decide +kernel
theorem dX10_init_19 : decode cX10_init 19 = .ok (.bipush 34, 2) := by decide +kernel
theorem dX10_init_21 : decode cX10_init 21 = .ok (.newarray .int, 2) := by decide +kernel
theorem dX10_init_23 : decode cX10_init 23 = .ok (.putfield 19, 3) := by decide +kernel
theorem dX10_init_26 : decode cX10_init 26 = .ok (.iconst 0, 1) := by decide +kernel
theorem dX10_init_27 : decode cX10_init 27 = .ok (.istore_n 1, 1) := by decide +kernel
theorem dX10_init_28 : decode cX10_init 28 = .ok (.iconst 0, 1) := by decide +kernel
theorem dX10_init_29 : decode cX10_init 29 = .ok (.istore_n 2, 1) := by decide +kernel
theorem dX10_init_30 : decode cX10_init 30 = .ok (.iconst 0, 1) := by decide +kernel
theorem dX10_init_31 : decode cX10_init 31 = .ok (.istore_n 3, 1) := by decide +kernel
theorem dX10_init_32 : decode cX10_init 32 = .ok (.iload_n 3, 1) := by decide +kernel
theorem dX10_init_33 : decode cX10_init 33 = .ok (.ldc 22, 2) := by decide +kernel
theorem dX10_init_35 : decode cX10_init 35 = .ok (.invokevirtual 24, 3) := by decide +kernel
theorem dX10_init_38 : decode cX10_init 38 = .ok (.if_icmp .gt 56, 3) := by decide +kernel
theorem dX10_init_41 : decode cX10_init 41 = .ok (.iload_n 1, 1) := by decide +kernel
theorem dX10_init_42 : decode cX10_init 42 = .ok (.aload_n 0, 1) := by decide +kernel
theorem dX10_init_43 : decode cX10_init 43 = .ok (.getfield 19, 3) := by decide +kernel
theorem dX10_init_46 : decode cX10_init 46 = .ok (.arraylength, 1) := by decide +kernel
theorem dX10_init_47 : decode cX10_init 47 = .ok (.if_icmp .ge 47, 3) := by decide +kernel
theorem dX10_init_50 : decode cX10_init 50 = .ok (.iload_n 3, 1) := by decide +kernel
theorem dX10_init_51 : decode cX10_init 51 = .ok (.ldc 22, 2) := by decide +kernel
theorem dX10_init_53 : decode cX10_init 53 = .ok (.invokevirtual 24, 3) := by decide +kernel
theorem dX10_init_56 : decode cX10_init 56 = .ok (.if_icmp .eq 14, 3) := by decide +kernel
theorem dX10_init_59 : decode cX10_init 59 = .ok (.ldc 22, 2) := by decide +kernel
theorem dX10_init_61 : decode cX10_init 61 = .ok (.iload_n 3, 1) := by decide +kernel
theorem dX10_init_62 : decode cX10_init 62 = .ok (.invokevirtual 30, 3) := by decide +kernel
theorem dX10_init_65 : decode cX10_init 65 = .ok (.bipush 32, 2) := by decide +kernel
theorem dX10_init_67 : decode cX10_init 67 = .ok (.if_icmp .ne 21, 3) := by decide +kernel
theorem dX10_init_70 : decode cX10_init 70 = .ok (.aload_n 0, 1) := by decide +kernel
theorem dX10_init_71 : decode cX10_init 71 = .ok (.getfield 19, 3) := by decide +kernel
theorem dX10_init_74 : decode cX10_init 74 = .ok (.iload_n 1, 1) := by decide +kernel
theorem dX10_init_75 : decode cX10_init 75 = .ok (.iload_n 2, 1) := by decide +kernel
theorem dX10_init_76 : decode cX10_init 76 = .ok (.iload_n 3, 1) := by decide +kernel
theorem dX10_init_77 : decode cX10_init 77 = .ok (.invokestatic 34, 3) := by decide +kernel
theorem dX10_init_80 : decode cX10_init 80 = .ok (.iastore, 1) := by decide +kernel
theorem dX10_init_81 : decode cX10_init 81 = .ok (.iinc 1 1, 3) := by decide +kernel
theorem dX10_init_84 : decode cX10_init 84 = .ok (.iload_n 3, 1) := by decide +kernel
theorem dX10_init_85 : decode cX10_init 85 = .ok (.iconst 1, 1) := by decide +kernel
theorem dX10_init_86 : decode cX10_init 86 = .ok (.iadd, 1) := by decide +kernel
theorem dX10_init_87 : decode cX10_init 87 = .ok (.istore_n 2, 1) := by decide +kernel
theorem dX10_init_88 : decode cX10_init 88 = .ok (.iinc 3 1, 3) := by decide +kernel
theorem dX10_init_91 : decode cX10_init 91 = .ok (.goto (-59), 3) := by decide +kernel
theorem dX10_init_94 : decode cX10_init 94 = .ok (.return_, 1) := by decide +kernel
theorem dX10_packedConstant_0 : decode cX10_packedConstant 0 = .ok (.iconst 0, 1) := by decide +kernel
theorem dX10_packedConstant_1 : decode cX10_packedConstant 1 = .ok (.istore_n 2, 1) := by decide +kernel
theorem dX10_packedConstant_2 : decode cX10_packedConstant 2 = .ok (.iload_n 0, 1) := by decide +kernel
theorem dX10_packedConstant_3 : decode cX10_packedConstant 3 = .ok (.istore_n 3, 1) := by decide +kernel
theorem dX10_packedConstant_4 : decode cX10_packedConstant 4 = .ok (.iload_n 3, 1) := by decide +kernel
theorem dX10_packedConstant_5 : decode cX10_packedConstant 5 = .ok (.iload_n 0, 1) := by decide +kernel
theorem dX10_packedConstant_6 : decode cX10_packedConstant 6 = .ok (.bipush 6, 2) := by decide +kernel
theorem dX10_packedConstant_8 : decode cX10_packedConstant 8 = .ok (.iadd, 1) := by decide +kernel
theorem dX10_packedConstant_9 : decode cX10_packedConstant 9 = .ok (.if_icmp .ge 35, 3) := by decide +kernel
theorem dX10_packedConstant_12 : decode cX10_packedConstant 12 = .ok (.bipush 32, 2) := by decide +kernel
theorem dX10_packedConstant_14 : decode cX10_packedConstant 14 = .ok (.iload_n 2, 1) := by decide +kernel
theorem dX10_packedConstant_15 : decode cX10_packedConstant 15 = .ok (.imul, 1) := by decide +kernel
theorem dX10_packedConstant_16 : decode cX10_packedConstant 16 = .ok (.iload_n 3, 1) := by decide +kernel
